-- ===== PART A: goes FIRST, ahead of the names: the tables' words, and 'selects' of the private methods out of them =====
/-- a private method of a class that the tables say can be made, by its rows of tables_1 -/
def lw_okq (q : MethodName × Nat) : Prop := (q.1.cls ≠ "java/lang/invoke/MethodHandle" ∧ q.1.cls ≠ "java/lang/invoke/VarHandle") ∧ Cond.instantiable q.1.cls q.2 ∈ tables_1 ∧ Cond.privateMethod q.1 ∈ tables_1 ∧ Cond.instanceMethod q.1 ∈ tables_1
theorem lw_p0 : lw_okq (⟨"VacantAir", "barredAlone", "(I)I"⟩, 6) := ⟨⟨by decide +kernel, by decide +kernel⟩, List.mem_of_getElem? (i := 11) (by decide +kernel), List.mem_of_getElem? (i := 251) (by decide +kernel), List.mem_of_getElem? (i := 252) (by decide +kernel)⟩
theorem lw_p1 : lw_okq (⟨"VacantAir$State", "barredRadius", "(II)I"⟩, 6) := ⟨⟨by decide +kernel, by decide +kernel⟩, List.mem_of_getElem? (i := 19) (by decide +kernel), List.mem_of_getElem? (i := 295) (by decide +kernel), List.mem_of_getElem? (i := 296) (by decide +kernel)⟩
theorem lw_p2 : lw_okq (⟨"VacantAir", "recorded", "(I)I"⟩, 6) := ⟨⟨by decide +kernel, by decide +kernel⟩, List.mem_of_getElem? (i := 11) (by decide +kernel), List.mem_of_getElem? (i := 413) (by decide +kernel), List.mem_of_getElem? (i := 414) (by decide +kernel)⟩
theorem lw_p3 : lw_okq (⟨"VacantAir$State", "review", "()V"⟩, 6) := ⟨⟨by decide +kernel, by decide +kernel⟩, List.mem_of_getElem? (i := 19) (by decide +kernel), List.mem_of_getElem? (i := 429) (by decide +kernel), List.mem_of_getElem? (i := 430) (by decide +kernel)⟩
theorem lw_p4 : lw_okq (⟨"VacantAir$State", "refusal", "(II)I"⟩, 6) := ⟨⟨by decide +kernel, by decide +kernel⟩, List.mem_of_getElem? (i := 19) (by decide +kernel), List.mem_of_getElem? (i := 518) (by decide +kernel), List.mem_of_getElem? (i := 519) (by decide +kernel)⟩
theorem lw_p5 : lw_okq (⟨"VacantAir$State", "isAllowedOnAny", "(II)Z"⟩, 6) := ⟨⟨by decide +kernel, by decide +kernel⟩, List.mem_of_getElem? (i := 19) (by decide +kernel), List.mem_of_getElem? (i := 522) (by decide +kernel), List.mem_of_getElem? (i := 523) (by decide +kernel)⟩
theorem lw_p6 : lw_okq (⟨"VacantAir$State", "isFree", "(III)Z"⟩, 6) := ⟨⟨by decide +kernel, by decide +kernel⟩, List.mem_of_getElem? (i := 19) (by decide +kernel), List.mem_of_getElem? (i := 530) (by decide +kernel), List.mem_of_getElem? (i := 531) (by decide +kernel)⟩
theorem lw_p7 : lw_okq (⟨"VacantAir$State", "endLeases", "()V"⟩, 6) := ⟨⟨by decide +kernel, by decide +kernel⟩, List.mem_of_getElem? (i := 19) (by decide +kernel), List.mem_of_getElem? (i := 579) (by decide +kernel), List.mem_of_getElem? (i := 580) (by decide +kernel)⟩
theorem lw_p8 : lw_okq (⟨"VacantAir$State", "asksNow", "(I)Z"⟩, 6) := ⟨⟨by decide +kernel, by decide +kernel⟩, List.mem_of_getElem? (i := 19) (by decide +kernel), List.mem_of_getElem? (i := 583) (by decide +kernel), List.mem_of_getElem? (i := 584) (by decide +kernel)⟩
theorem lw_p9 : lw_okq (⟨"VacantAir$State", "hopOrStrike", "(I)I"⟩, 6) := ⟨⟨by decide +kernel, by decide +kernel⟩, List.mem_of_getElem? (i := 19) (by decide +kernel), List.mem_of_getElem? (i := 587) (by decide +kernel), List.mem_of_getElem? (i := 588) (by decide +kernel)⟩
theorem lw_p10 : lw_okq (⟨"VacantAir$State", "cutLeases", "()V"⟩, 6) := ⟨⟨by decide +kernel, by decide +kernel⟩, List.mem_of_getElem? (i := 19) (by decide +kernel), List.mem_of_getElem? (i := 591) (by decide +kernel), List.mem_of_getElem? (i := 592) (by decide +kernel)⟩
def lw_privs_1 : List (MethodName × Nat) := [(⟨"VacantAir", "barredAlone", "(I)I"⟩, 6), (⟨"VacantAir$State", "barredRadius", "(II)I"⟩, 6), (⟨"VacantAir", "recorded", "(I)I"⟩, 6), (⟨"VacantAir$State", "review", "()V"⟩, 6), (⟨"VacantAir$State", "refusal", "(II)I"⟩, 6), (⟨"VacantAir$State", "isAllowedOnAny", "(II)Z"⟩, 6), (⟨"VacantAir$State", "isFree", "(III)Z"⟩, 6), (⟨"VacantAir$State", "endLeases", "()V"⟩, 6), (⟨"VacantAir$State", "asksNow", "(I)Z"⟩, 6), (⟨"VacantAir$State", "hopOrStrike", "(I)I"⟩, 6), (⟨"VacantAir$State", "cutLeases", "()V"⟩, 6)]
theorem lw_r1 : ∀ q ∈ lw_privs_1, lw_okq q := List.forall_mem_cons.mpr ⟨lw_p0, List.forall_mem_cons.mpr ⟨lw_p1, List.forall_mem_cons.mpr ⟨lw_p2, List.forall_mem_cons.mpr ⟨lw_p3, List.forall_mem_cons.mpr ⟨lw_p4, List.forall_mem_cons.mpr ⟨lw_p5, List.forall_mem_cons.mpr ⟨lw_p6, List.forall_mem_cons.mpr ⟨lw_p7, List.forall_mem_cons.mpr ⟨lw_p8, List.forall_mem_cons.mpr ⟨lw_p9, List.forall_mem_cons.mpr ⟨lw_p10, fun _ h => absurd h List.not_mem_nil⟩⟩⟩⟩⟩⟩⟩⟩⟩⟩⟩
def lw_privs : List (MethodName × Nat) := lw_privs_1
def lw_tbl : List Cond := k2_sels lw_privs ++ tables_1
theorem lw_privs_ok : ∀ q ∈ lw_privs, lw_okq q := lw_r1
/-! ===== BEGIN words of one list among another's, by their places ===== -/
theorem goodIn_r {big : List Cond} (ws : List Cond) (ps : List Nat) (hp : ws = ps.filterMap (fun i => big[i]?)) (h : ws.all goodWord = true) : GoodIn big ws := by
  intro w hw
  have h1 := List.all_eq_true.mp h w hw
  rw [hp] at hw
  obtain ⟨i, -, hi⟩ := List.mem_filterMap.mp hw
  have hm : w ∈ big := by first | exact List.mem_of_getElem? hi | exact List.getElem?_mem hi
  exact ⟨hm, good_of_word h1⟩
theorem goodIn_app {big a b : List Cond} (ha : GoodIn big a) (hb : GoodIn big b) : GoodIn big (a ++ b) := fun w h => (List.mem_append.mp h).elim (ha w) (hb w)
theorem goodIn_ca {big a b : List Cond} {c : Cond} (ha : GoodIn big (c :: a)) (hb : GoodIn big b) : GoodIn big (c :: (a ++ b)) := fun w h => (List.mem_cons.mp h).elim (fun e => ha w (List.mem_cons.mpr (Or.inl e))) (fun h => (List.mem_append.mp h).elim (fun h => ha w (List.mem_cons.mpr (Or.inr h))) (hb w))
theorem goodIn_sub {big ws : List Cond} (hm : ∀ w ∈ ws, w ∈ big) (h : ws.all goodWord = true) : GoodIn big ws := fun w hw => ⟨hm w hw, good_of_word (List.all_eq_true.mp h w hw)⟩
/-! ===== END ===== -/

/-! ===== BEGIN printed: names, fields, word lists, decode rows ===== -/
def RX0 : String := "VacantAir$ActText"
def TX0 : u_T := fun k => match k with
  | 0 => ("VacantAir$ActText", "bytes", "[I", true)
  | 1 => ("VacantAir$ActText", "length", "I", false)
  | 2 => ("VacantAir$ActText", "place", "I", false)
  | 3 => ("VacantAir$ActText", "fault", "I", false)
  | 4 => ("VacantAir$ActText", "kind", "I", false)
  | 5 => ("VacantAir$ActText", "first", "I", false)
  | 6 => ("VacantAir$ActText", "second", "I", false)
  | _ => ("VacantAir$ActText", "third", "I", false)
def tyX0 : Nat → FieldType := fun k => match k with
  | 0 => .array .int
  | 1 => .int
  | 2 => .int
  | 3 => .int
  | 4 => .int
  | 5 => .int
  | 6 => .int
  | _ => .int
abbrev wsX00 : List Cond := u_ws RX0 TX0 8
theorem nmX0 : ∀ a, a < 8 → ∀ b, b < 8 → a ≠ b → (TX0 a).2.1 ≠ (TX0 b).2.1 := by decide +kernel
theorem tyX0_ok : ∀ k, k < 8 → parseFieldDescriptor (TX0 k).2.2.1 = some (tyX0 k) := by decide +kernel
abbrev cX0_init : ByteArray := prog_2_method_1_code
def yX0_init : MethodName := ⟨RX0, "<init>", "()V"⟩
def RX1 : String := "VacantAir$Devices"
def TX1 : u_T := fun k => match k with
  | 0 => ("VacantAir$Devices", "x", "[I", true)
  | 1 => ("VacantAir$Devices", "y", "[I", true)
  | 2 => ("VacantAir$Devices", "greatest", "[I", true)
  | 3 => ("VacantAir$Devices", "channel", "[I", true)
  | 4 => ("VacantAir$Devices", "power", "[I", true)
  | 5 => ("VacantAir$Devices", "end", "[I", true)
  | 6 => ("VacantAir$Devices", "notice", "[I", true)
  | 7 => ("VacantAir$Devices", "hops", "[I", true)
  | 8 => ("VacantAir$Devices", "struck", "[I", true)
  | 9 => ("VacantAir$Devices", "cut", "[I", true)
  | _ => ("VacantAir$Devices", "count", "I", false)
def tyX1 : Nat → FieldType := fun k => match k with
  | 0 => .array .int
  | 1 => .array .int
  | 2 => .array .int
  | 3 => .array .int
  | 4 => .array .int
  | 5 => .array .int
  | 6 => .array .int
  | 7 => .array .int
  | 8 => .array .int
  | 9 => .array .int
  | _ => .int
abbrev wsX10 : List Cond := u_ws RX1 TX1 11
theorem nmX1 : ∀ a, a < 11 → ∀ b, b < 11 → a ≠ b → (TX1 a).2.1 ≠ (TX1 b).2.1 := by decide +kernel
theorem tyX1_ok : ∀ k, k < 11 → parseFieldDescriptor (TX1 k).2.2.1 = some (tyX1 k) := by decide +kernel
abbrev cX1_init : ByteArray := prog_3_method_1_code
def yX1_init : MethodName := ⟨RX1, "<init>", "()V"⟩
abbrev cX1_has : ByteArray := prog_3_method_2_code
def yX1_has : MethodName := ⟨RX1, "has", "(I)Z"⟩
abbrev cX1_hasLease : ByteArray := prog_3_method_3_code
def yX1_hasLease : MethodName := ⟨RX1, "hasLease", "(I)Z"⟩
abbrev cX1_hasNotice : ByteArray := prog_3_method_4_code
def yX1_hasNotice : MethodName := ⟨RX1, "hasNotice", "(I)Z"⟩
abbrev cX1_putOn : ByteArray := prog_3_method_5_code
def yX1_putOn : MethodName := ⟨RX1, "putOn", "(III)V"⟩
abbrev cX1_removeLease : ByteArray := prog_3_method_6_code
def yX1_removeLease : MethodName := ⟨RX1, "removeLease", "(I)V"⟩
abbrev cX1_tell : ByteArray := prog_3_method_7_code
def yX1_tell : MethodName := ⟨RX1, "tell", "(II)I"⟩
abbrev cX1_countLeases : ByteArray := prog_3_method_8_code
def yX1_countLeases : MethodName := ⟨RX1, "countLeases", "()I"⟩
abbrev cX1_countOn : ByteArray := prog_3_method_9_code
def yX1_countOn : MethodName := ⟨RX1, "countOn", "(I)I"⟩
abbrev cX1_countNotices : ByteArray := prog_3_method_10_code
def yX1_countNotices : MethodName := ⟨RX1, "countNotices", "()I"⟩
abbrev cX1_sumOf : ByteArray := prog_3_method_11_code
def yX1_sumOf : MethodName := ⟨RX1, "sumOf", "([I)I"⟩
abbrev cX1_copyFrom : ByteArray := prog_3_method_15_code
def yX1_copyFrom : MethodName := ⟨RX1, "copyFrom", "(LVacantAir$Devices;)V"⟩
def RX2 : String := "VacantAir$Events"
def TX2 : u_T := fun k => match k with
  | 0 => ("VacantAir$Events", "x", "[I", true)
  | 1 => ("VacantAir$Events", "y", "[I", true)
  | 2 => ("VacantAir$Events", "radius", "[I", true)
  | 3 => ("VacantAir$Events", "channel", "[I", true)
  | 4 => ("VacantAir$Events", "from", "[I", true)
  | 5 => ("VacantAir$Events", "to", "[I", true)
  | 6 => ("VacantAir$Events", "cancelled", "[I", true)
  | _ => ("VacantAir$Events", "count", "I", false)
def tyX2 : Nat → FieldType := fun k => match k with
  | 0 => .array .int
  | 1 => .array .int
  | 2 => .array .int
  | 3 => .array .int
  | 4 => .array .int
  | 5 => .array .int
  | 6 => .array .int
  | _ => .int
abbrev wsX20 : List Cond := u_ws RX2 TX2 8
theorem nmX2 : ∀ a, a < 8 → ∀ b, b < 8 → a ≠ b → (TX2 a).2.1 ≠ (TX2 b).2.1 := by decide +kernel
theorem tyX2_ok : ∀ k, k < 8 → parseFieldDescriptor (TX2 k).2.2.1 = some (tyX2 k) := by decide +kernel
abbrev cX2_init : ByteArray := prog_4_method_1_code
def yX2_init : MethodName := ⟨RX2, "<init>", "()V"⟩
abbrev cX2_has : ByteArray := prog_4_method_2_code
def yX2_has : MethodName := ⟨RX2, "has", "(I)Z"⟩
abbrev cX2_isOn : ByteArray := prog_4_method_3_code
def yX2_isOn : MethodName := ⟨RX2, "isOn", "(II)Z"⟩
abbrev cX2_tell : ByteArray := prog_4_method_4_code
def yX2_tell : MethodName := ⟨RX2, "tell", "(III)I"⟩
abbrev cX2_copyFrom : ByteArray := prog_4_method_5_code
def yX2_copyFrom : MethodName := ⟨RX2, "copyFrom", "(LVacantAir$Events;)V"⟩
def RX3 : String := "VacantAir$History"
def TX3 : u_T := fun k => match k with
  | 0 => ("VacantAir$History", "ring", "[LVacantAir$State;", true)
  | 1 => ("VacantAir$History", "oldest", "I", false)
  | _ => ("VacantAir$History", "count", "I", false)
def tyX3 : Nat → FieldType := fun k => match k with
  | 0 => .array (.object "VacantAir$State")
  | 1 => .int
  | _ => .int
abbrev wsX30 : List Cond := u_ws RX3 TX3 3
theorem nmX3 : ∀ a, a < 3 → ∀ b, b < 3 → a ≠ b → (TX3 a).2.1 ≠ (TX3 b).2.1 := by decide +kernel
theorem tyX3_ok : ∀ k, k < 3 → parseFieldDescriptor (TX3 k).2.2.1 = some (tyX3 k) := by decide +kernel
abbrev cX3_init : ByteArray := prog_5_method_1_code
def yX3_init : MethodName := ⟨RX3, "<init>", "()V"⟩
abbrev cX3_note : ByteArray := prog_5_method_2_code
def yX3_note : MethodName := ⟨RX3, "note", "(LVacantAir$State;)V"⟩
abbrev cX3_keepNoted : ByteArray := prog_5_method_3_code
def yX3_keepNoted : MethodName := ⟨RX3, "keepNoted", "()V"⟩
def RX4 : String := "VacantAir$State"
def TX4 : u_T := fun k => match k with
  | 0 => ("VacantAir$State", "stations", "LVacantAir$Stations;", true)
  | 1 => ("VacantAir$State", "events", "LVacantAir$Events;", true)
  | 2 => ("VacantAir$State", "devices", "LVacantAir$Devices;", true)
  | 3 => ("VacantAir$State", "settings", "[I", true)
  | 4 => ("VacantAir$State", "hour", "I", false)
  | _ => ("VacantAir$State", "reason", "I", false)
def tyX4 : Nat → FieldType := fun k => match k with
  | 0 => .object "VacantAir$Stations"
  | 1 => .object "VacantAir$Events"
  | 2 => .object "VacantAir$Devices"
  | 3 => .array .int
  | 4 => .int
  | _ => .int
abbrev wsX40 : List Cond := u_ws RX4 TX4 6
theorem nmX4 : ∀ a, a < 6 → ∀ b, b < 6 → a ≠ b → (TX4 a).2.1 ≠ (TX4 b).2.1 := by decide +kernel
theorem tyX4_ok : ∀ k, k < 6 → parseFieldDescriptor (TX4 k).2.2.1 = some (tyX4 k) := by decide +kernel
abbrev cX4_init : ByteArray := prog_6_method_1_code
def yX4_init : MethodName := ⟨RX4, "<init>", "()V"⟩
abbrev cX4_copyFrom : ByteArray := prog_6_method_2_code
def yX4_copyFrom : MethodName := ⟨RX4, "copyFrom", "(LVacantAir$State;)V"⟩
abbrev cX4_putStation : ByteArray := prog_6_method_3_code
def yX4_putStation : MethodName := ⟨RX4, "putStation", "(IIII)I"⟩
abbrev cX4_putEvent : ByteArray := prog_6_method_4_code
def yX4_putEvent : MethodName := ⟨RX4, "putEvent", "(IIIIII)I"⟩
abbrev cX4_putDevice : ByteArray := prog_6_method_5_code
def yX4_putDevice : MethodName := ⟨RX4, "putDevice", "(III)I"⟩
abbrev cX4_change : ByteArray := prog_6_method_6_code
def yX4_change : MethodName := ⟨RX4, "change", "(II)I"⟩
abbrev cX4_turnStation : ByteArray := prog_6_method_7_code
def yX4_turnStation : MethodName := ⟨RX4, "turnStation", "(II)I"⟩
abbrev cX4_callOff : ByteArray := prog_6_method_8_code
def yX4_callOff : MethodName := ⟨RX4, "callOff", "(I)I"⟩
abbrev cX4_makeLease : ByteArray := prog_6_method_9_code
def yX4_makeLease : MethodName := ⟨RX4, "makeLease", "(III)I"⟩
abbrev cX4_prolongLease : ByteArray := prog_6_method_10_code
def yX4_prolongLease : MethodName := ⟨RX4, "prolongLease", "(II)I"⟩
abbrev cX4_dropLease : ByteArray := prog_6_method_11_code
def yX4_dropLease : MethodName := ⟨RX4, "dropLease", "(I)I"⟩
abbrev cX4_passHours : ByteArray := prog_6_method_12_code
def yX4_passHours : MethodName := ⟨RX4, "passHours", "(I)I"⟩
abbrev cX4_passOneHour : ByteArray := prog_6_method_13_code
def yX4_passOneHour : MethodName := ⟨RX4, "passOneHour", "()I"⟩
abbrev cX4_endLeases : ByteArray := prog_6_method_14_code
def yX4_endLeases : MethodName := ⟨RX4, "endLeases", "()V"⟩
abbrev cX4_review : ByteArray := prog_6_method_15_code
def yX4_review : MethodName := ⟨RX4, "review", "()V"⟩
abbrev cX4_cutLeases : ByteArray := prog_6_method_16_code
def yX4_cutLeases : MethodName := ⟨RX4, "cutLeases", "()V"⟩
abbrev cX4_asksNow : ByteArray := prog_6_method_17_code
def yX4_asksNow : MethodName := ⟨RX4, "asksNow", "(I)Z"⟩
abbrev cX4_nextAsking : ByteArray := prog_6_method_18_code
def yX4_nextAsking : MethodName := ⟨RX4, "nextAsking", "(I)I"⟩
abbrev cX4_hopOrStrike : ByteArray := prog_6_method_19_code
def yX4_hopOrStrike : MethodName := ⟨RX4, "hopOrStrike", "(I)I"⟩
abbrev cX4_refusal : ByteArray := prog_6_method_20_code
def yX4_refusal : MethodName := ⟨RX4, "refusal", "(II)I"⟩
abbrev cX4_isAllowedOnAny : ByteArray := prog_6_method_21_code
def yX4_isAllowedOnAny : MethodName := ⟨RX4, "isAllowedOnAny", "(II)Z"⟩
abbrev cX4_findOffer : ByteArray := prog_6_method_22_code
def yX4_findOffer : MethodName := ⟨RX4, "findOffer", "(II)I"⟩
abbrev cX4_isFree : ByteArray := prog_6_method_23_code
def yX4_isFree : MethodName := ⟨RX4, "isFree", "(III)Z"⟩
abbrev cX4_leaseIsAllowed : ByteArray := prog_6_method_24_code
def yX4_leaseIsAllowed : MethodName := ⟨RX4, "leaseIsAllowed", "(I)Z"⟩
abbrev cX4_isAllowed : ByteArray := prog_6_method_25_code
def yX4_isAllowed : MethodName := ⟨RX4, "isAllowed", "(IIII)Z"⟩
abbrev cX4_barredRadius : ByteArray := prog_6_method_26_code
def yX4_barredRadius : MethodName := ⟨RX4, "barredRadius", "(II)I"⟩
abbrev cX4_tellTotal : ByteArray := prog_6_method_27_code
def yX4_tellTotal : MethodName := ⟨RX4, "tellTotal", "(I)I"⟩
def RX5 : String := "VacantAir$Stations"
def TX5 : u_T := fun k => match k with
  | 0 => ("VacantAir$Stations", "x", "[I", true)
  | 1 => ("VacantAir$Stations", "y", "[I", true)
  | 2 => ("VacantAir$Stations", "channel", "[I", true)
  | 3 => ("VacantAir$Stations", "powerClass", "[I", true)
  | 4 => ("VacantAir$Stations", "awake", "[I", true)
  | _ => ("VacantAir$Stations", "count", "I", false)
def tyX5 : Nat → FieldType := fun k => match k with
  | 0 => .array .int
  | 1 => .array .int
  | 2 => .array .int
  | 3 => .array .int
  | 4 => .array .int
  | _ => .int
abbrev wsX50 : List Cond := u_ws RX5 TX5 6
theorem nmX5 : ∀ a, a < 6 → ∀ b, b < 6 → a ≠ b → (TX5 a).2.1 ≠ (TX5 b).2.1 := by decide +kernel
theorem tyX5_ok : ∀ k, k < 6 → parseFieldDescriptor (TX5 k).2.2.1 = some (tyX5 k) := by decide +kernel
abbrev cX5_init : ByteArray := prog_7_method_1_code
def yX5_init : MethodName := ⟨RX5, "<init>", "()V"⟩
abbrev cX5_has : ByteArray := prog_7_method_2_code
def yX5_has : MethodName := ⟨RX5, "has", "(I)Z"⟩
abbrev cX5_tell : ByteArray := prog_7_method_3_code
def yX5_tell : MethodName := ⟨RX5, "tell", "(II)I"⟩
abbrev cX5_countAwake : ByteArray := prog_7_method_4_code
def yX5_countAwake : MethodName := ⟨RX5, "countAwake", "()I"⟩
abbrev cX5_copyFrom : ByteArray := prog_7_method_5_code
def yX5_copyFrom : MethodName := ⟨RX5, "copyFrom", "(LVacantAir$Stations;)V"⟩
def RX6 : String := "VacantAir"
def TX6 : u_T := fun k => match k with
  | 0 => ("VacantAir", "present", "LVacantAir$State;", true)
  | 1 => ("VacantAir", "trial", "LVacantAir$State;", true)
  | 2 => ("VacantAir", "history", "LVacantAir$History;", true)
  | 3 => ("VacantAir", "slots", "[LVacantAir$State;", true)
  | 4 => ("VacantAir", "slotHolds", "[Z", true)
  | _ => ("VacantAir", "text", "LVacantAir$ActText;", true)
def tyX6 : Nat → FieldType := fun k => match k with
  | 0 => .object "VacantAir$State"
  | 1 => .object "VacantAir$State"
  | 2 => .object "VacantAir$History"
  | 3 => .array (.object "VacantAir$State")
  | 4 => .array .boolean
  | _ => .object "VacantAir$ActText"
abbrev wsX60 : List Cond := u_ws RX6 TX6 6
theorem nmX6 : ∀ a, a < 6 → ∀ b, b < 6 → a ≠ b → (TX6 a).2.1 ≠ (TX6 b).2.1 := by decide +kernel
theorem tyX6_ok : ∀ k, k < 6 → parseFieldDescriptor (TX6 k).2.2.1 = some (tyX6 k) := by decide +kernel
abbrev cX6_init : ByteArray := prog_1_method_1_code
def yX6_init : MethodName := ⟨RX6, "<init>", "()V"⟩
abbrev cX6_addStation : ByteArray := prog_1_method_2_code
def yX6_addStation : MethodName := ⟨RX6, "addStation", "(IIII)I"⟩
abbrev cX6_addEvent : ByteArray := prog_1_method_3_code
def yX6_addEvent : MethodName := ⟨RX6, "addEvent", "(IIIIII)I"⟩
abbrev cX6_addDevice : ByteArray := prog_1_method_4_code
def yX6_addDevice : MethodName := ⟨RX6, "addDevice", "(III)I"⟩
abbrev cX6_set : ByteArray := prog_1_method_5_code
def yX6_set : MethodName := ⟨RX6, "set", "(II)I"⟩
abbrev cX6_wake : ByteArray := prog_1_method_6_code
def yX6_wake : MethodName := ⟨RX6, "wake", "(I)I"⟩
abbrev cX6_sleep : ByteArray := prog_1_method_7_code
def yX6_sleep : MethodName := ⟨RX6, "sleep", "(I)I"⟩
abbrev cX6_cancel : ByteArray := prog_1_method_8_code
def yX6_cancel : MethodName := ⟨RX6, "cancel", "(I)I"⟩
abbrev cX6_lease : ByteArray := prog_1_method_9_code
def yX6_lease : MethodName := ⟨RX6, "lease", "(III)I"⟩
abbrev cX6_renew : ByteArray := prog_1_method_10_code
def yX6_renew : MethodName := ⟨RX6, "renew", "(II)I"⟩
abbrev cX6_giveBack : ByteArray := prog_1_method_11_code
def yX6_giveBack : MethodName := ⟨RX6, "giveBack", "(I)I"⟩
abbrev cX6_pass : ByteArray := prog_1_method_12_code
def yX6_pass : MethodName := ⟨RX6, "pass", "(I)I"⟩
abbrev cX6_station : ByteArray := prog_1_method_20_code
def yX6_station : MethodName := ⟨RX6, "station", "(II)I"⟩
abbrev cX6_event : ByteArray := prog_1_method_21_code
def yX6_event : MethodName := ⟨RX6, "event", "(II)I"⟩
abbrev cX6_device : ByteArray := prog_1_method_22_code
def yX6_device : MethodName := ⟨RX6, "device", "(II)I"⟩
abbrev cX6_leases : ByteArray := prog_1_method_26_code
def yX6_leases : MethodName := ⟨RX6, "leases", "(I)I"⟩
abbrev cX6_total : ByteArray := prog_1_method_27_code
def yX6_total : MethodName := ⟨RX6, "total", "(I)I"⟩
abbrev cX6_recorded : ByteArray := prog_1_method_33_code
def yX6_recorded : MethodName := ⟨RX6, "recorded", "(I)I"⟩
abbrev cX6_barredAlone : ByteArray := prog_1_method_34_code
def yX6_barredAlone : MethodName := ⟨RX6, "barredAlone", "(I)I"⟩
abbrev cX6_isOutside : ByteArray := prog_1_method_35_code
def yX6_isOutside : MethodName := ⟨RX6, "isOutside", "(III)Z"⟩
abbrev cX6_isNoPlace : ByteArray := prog_1_method_36_code
def yX6_isNoPlace : MethodName := ⟨RX6, "isNoPlace", "(II)Z"⟩
abbrev cX6_isWithin : ByteArray := prog_1_method_37_code
def yX6_isWithin : MethodName := ⟨RX6, "isWithin", "(III)Z"⟩
abbrev cX6_copyRow : ByteArray := prog_1_method_38_code
def yX6_copyRow : MethodName := ⟨RX6, "copyRow", "([I[I)V"⟩
def RX7 : String := "VacantAirModel"
def TX7 : u_T := fun k => match k with
  | _ => ("", "", "", false)
def tyX7 : Nat → FieldType := fun k => match k with
  | _ => .int
abbrev wsX70 : List Cond := u_ws RX7 TX7 0
theorem nmX7 : ∀ a, a < 0 → ∀ b, b < 0 → a ≠ b → (TX7 a).2.1 ≠ (TX7 b).2.1 := by decide +kernel
theorem tyX7_ok : ∀ k, k < 0 → parseFieldDescriptor (TX7 k).2.2.1 = some (tyX7 k) := by decide +kernel
def RJ9 : String := "java/lang/Math"
def TJ9 : u_T := fun k => match k with
  | _ => ("", "", "", false)
def tyJ9 : Nat → FieldType := fun k => match k with
  | _ => .int
abbrev wsJ90 : List Cond := u_ws RJ9 TJ9 0
theorem nmJ9 : ∀ a, a < 0 → ∀ b, b < 0 → a ≠ b → (TJ9 a).2.1 ≠ (TJ9 b).2.1 := by decide +kernel
theorem tyJ9_ok : ∀ k, k < 0 → parseFieldDescriptor (TJ9 k).2.2.1 = some (tyJ9 k) := by decide +kernel
abbrev cJ9_min_7cf53 : ByteArray := prog_10_method_69_code
def yJ9_min_7cf53 : MethodName := ⟨RJ9, "min", "(II)I"⟩
def RJ10 : String := "java/lang/System"
def TJ10 : u_T := fun k => match k with
  | _ => ("", "", "", false)
def tyJ10 : Nat → FieldType := fun k => match k with
  | _ => .int
abbrev wsJ100 : List Cond := u_ws RJ10 TJ10 0
theorem nmJ10 : ∀ a, a < 0 → ∀ b, b < 0 → a ≠ b → (TJ10 a).2.1 ≠ (TJ10 b).2.1 := by decide +kernel
theorem tyJ10_ok : ∀ k, k < 0 → parseFieldDescriptor (TJ10 k).2.2.1 = some (tyJ10 k) := by decide +kernel
def RL : String := "VacantAirLaw"
abbrev cL_cell : ByteArray := method_2_code
def yL_cell : MethodName := ⟨RL, "cell", "([II)I"⟩
abbrev cL_low : ByteArray := method_3_code
def yL_low : MethodName := ⟨RL, "low", "(II)I"⟩
abbrev cL_reach : ByteArray := method_4_code
def yL_reach : MethodName := ⟨RL, "reach", "(I)I"⟩
abbrev cL_radius : ByteArray := method_5_code
def yL_radius : MethodName := ⟨RL, "radius", "(I)I"⟩
abbrev cL_near : ByteArray := method_6_code
def yL_near : MethodName := ⟨RL, "near", "(IIIII)Z"⟩
abbrev cL_allowed : ByteArray := method_7_code
def yL_allowed : MethodName := ⟨RL, "allowed", "([I[I[IIIIII)Z"⟩
abbrev cL_may : ByteArray := method_8_code
def yL_may : MethodName := ⟨RL, "may", "([I[I[I[IIII)Z"⟩
abbrev cL_offer : ByteArray := method_9_code
def yL_offer : MethodName := ⟨RL, "offer", "([I[I[I[I[III)I"⟩
abbrev cL_review : ByteArray := method_10_code
def yL_review : MethodName := ⟨RL, "review", "([I[I[I[I[I)V"⟩
abbrev cL_ends : ByteArray := method_11_code
def yL_ends : MethodName := ⟨RL, "ends", "([I[II)V"⟩
abbrev cL_notices : ByteArray := method_12_code
def yL_notices : MethodName := ⟨RL, "notices", "([I[I)I"⟩
abbrev cL_leases : ByteArray := method_13_code
def yL_leases : MethodName := ⟨RL, "leases", "([I[I)I"⟩
abbrev cL_hour : ByteArray := method_14_code
def yL_hour : MethodName := ⟨RL, "hour", "([I[I[I[I[I[I)I"⟩
abbrev cL_adds : ByteArray := method_15_code
def yL_adds : MethodName := ⟨RL, "adds", "(LVacantAir;[I[I[I[I[I[III)Z"⟩
abbrev cL_turns : ByteArray := method_16_code
def yL_turns : MethodName := ⟨RL, "turns", "(LVacantAir;[I[I[I[I[III)Z"⟩
abbrev cL_leased : ByteArray := method_17_code
def yL_leased : MethodName := ⟨RL, "leased", "(LVacantAir;[I[I[I[I[III)Z"⟩
abbrev cL_acts : ByteArray := method_18_code
def yL_acts : MethodName := ⟨RL, "acts", "(LVacantAir;[I[I[I[I[I[II)Z"⟩
abbrev cL_isSo : ByteArray := method_19_code
def yL_isSo : MethodName := ⟨RL, "isSo", "(LVacantAir;[I[I[I[I[I[I)Z"⟩
abbrev cL_law : ByteArray := code
def yL_law : MethodName := ⟨RL, "law", "([I)Z"⟩
def wsX0_init : List Cond := .code yX0_init cX0_init 1 none :: ([.methodLink RX0 3 objectInit, .instanceMethod objectInit, .code objectInit ⟨#[0xb1]⟩ 1 none, .arrayClass .int, .fieldLink RX0 9 "VacantAir$ActText" "bytes" "[I", .fieldLink RX0 15 "VacantAir$ActText" "fault" "I"] ++ wsX00)
def wsX1_init : List Cond := .code yX1_init cX1_init 1 none :: ([.methodLink RX1 3 objectInit, .instanceMethod objectInit, .code objectInit ⟨#[0xb1]⟩ 1 none, .arrayClass .int, .fieldLink RX1 9 "VacantAir$Devices" "x" "[I", .fieldLink RX1 15 "VacantAir$Devices" "y" "[I", .fieldLink RX1 18 "VacantAir$Devices" "greatest" "[I", .fieldLink RX1 21 "VacantAir$Devices" "channel" "[I", .fieldLink RX1 24 "VacantAir$Devices" "power" "[I", .fieldLink RX1 27 "VacantAir$Devices" "end" "[I", .fieldLink RX1 30 "VacantAir$Devices" "notice" "[I", .fieldLink RX1 33 "VacantAir$Devices" "hops" "[I", .fieldLink RX1 36 "VacantAir$Devices" "struck" "[I", .fieldLink RX1 39 "VacantAir$Devices" "cut" "[I"] ++ wsX10)
def wsX2_init : List Cond := .code yX2_init cX2_init 1 none :: ([.methodLink RX2 3 objectInit, .instanceMethod objectInit, .code objectInit ⟨#[0xb1]⟩ 1 none, .arrayClass .int, .fieldLink RX2 9 "VacantAir$Events" "x" "[I", .fieldLink RX2 15 "VacantAir$Events" "y" "[I", .fieldLink RX2 18 "VacantAir$Events" "radius" "[I", .fieldLink RX2 21 "VacantAir$Events" "channel" "[I", .fieldLink RX2 24 "VacantAir$Events" "from" "[I", .fieldLink RX2 27 "VacantAir$Events" "to" "[I", .fieldLink RX2 30 "VacantAir$Events" "cancelled" "[I"] ++ wsX20)
def wsX5_init : List Cond := .code yX5_init cX5_init 1 none :: ([.methodLink RX5 3 objectInit, .instanceMethod objectInit, .code objectInit ⟨#[0xb1]⟩ 1 none, .arrayClass .int, .fieldLink RX5 9 "VacantAir$Stations" "x" "[I", .fieldLink RX5 15 "VacantAir$Stations" "y" "[I", .fieldLink RX5 18 "VacantAir$Stations" "channel" "[I", .fieldLink RX5 21 "VacantAir$Stations" "powerClass" "[I", .fieldLink RX5 24 "VacantAir$Stations" "awake" "[I"] ++ wsX50)
def wsX4_init_r1 : List Cond := [Cond.methodLink RX4 3 objectInit, Cond.instanceMethod objectInit, Cond.code objectInit ⟨#[0xb1]⟩ 1 none, Cond.classLink RX4 9 RX5, Cond.instantiable RX5 6, Cond.initialized RX5, Cond.fieldLink RX4 12 "VacantAir$State" "stations" "LVacantAir$Stations;", Cond.classLink RX4 18 RX2, Cond.instantiable RX2 8, Cond.initialized RX2, Cond.fieldLink RX4 21 "VacantAir$State" "events" "LVacantAir$Events;", Cond.classLink RX4 25 RX1, Cond.instantiable RX1 11, Cond.initialized RX1, Cond.fieldLink RX4 28 "VacantAir$State" "devices" "LVacantAir$Devices;", Cond.arrayClass .int, Cond.fieldLink RX4 32 "VacantAir$State" "settings" "[I", Cond.instanceMethod yX5_init, Cond.code yX5_init cX5_init 1 none, Cond.methodLink RX5 3 objectInit, Cond.fieldLink RX5 9 "VacantAir$Stations" "x" "[I", Cond.fieldLink RX5 15 "VacantAir$Stations" "y" "[I", Cond.fieldLink RX5 18 "VacantAir$Stations" "channel" "[I", Cond.fieldLink RX5 21 "VacantAir$Stations" "powerClass" "[I"]
def wsX4_init_r2 : List Cond := [Cond.fieldLink RX5 24 "VacantAir$Stations" "awake" "[I", Cond.instanceMethod yX2_init, Cond.code yX2_init cX2_init 1 none, Cond.methodLink RX2 3 objectInit, Cond.fieldLink RX2 9 "VacantAir$Events" "x" "[I", Cond.fieldLink RX2 15 "VacantAir$Events" "y" "[I", Cond.fieldLink RX2 18 "VacantAir$Events" "radius" "[I", Cond.fieldLink RX2 21 "VacantAir$Events" "channel" "[I", Cond.fieldLink RX2 24 "VacantAir$Events" "from" "[I", Cond.fieldLink RX2 27 "VacantAir$Events" "to" "[I", Cond.fieldLink RX2 30 "VacantAir$Events" "cancelled" "[I", Cond.instanceMethod yX1_init, Cond.code yX1_init cX1_init 1 none, Cond.methodLink RX1 3 objectInit, Cond.fieldLink RX1 9 "VacantAir$Devices" "x" "[I", Cond.fieldLink RX1 15 "VacantAir$Devices" "y" "[I", Cond.fieldLink RX1 18 "VacantAir$Devices" "greatest" "[I", Cond.fieldLink RX1 21 "VacantAir$Devices" "channel" "[I", Cond.fieldLink RX1 24 "VacantAir$Devices" "power" "[I", Cond.fieldLink RX1 27 "VacantAir$Devices" "end" "[I", Cond.fieldLink RX1 30 "VacantAir$Devices" "notice" "[I", Cond.fieldLink RX1 33 "VacantAir$Devices" "hops" "[I", Cond.fieldLink RX1 36 "VacantAir$Devices" "struck" "[I", Cond.fieldLink RX1 39 "VacantAir$Devices" "cut" "[I"]
def wsX4_init : List Cond := .code yX4_init cX4_init 2 none :: ((wsX4_init_r1 ++ wsX4_init_r2) ++ wsX50 ++ wsX40 ++ wsX20 ++ wsX10)
def wsX3_init_r1 : List Cond := [Cond.methodLink RX3 3 objectInit, Cond.instanceMethod objectInit, Cond.code objectInit ⟨#[0xb1]⟩ 1 none, Cond.classLink RX3 9 RX4, Cond.fieldLink RX3 11 "VacantAir$History" "ring" "[LVacantAir$State;", Cond.instantiable RX4 6, Cond.initialized RX4, Cond.methodLink RX3 17 yX4_init, Cond.instanceMethod yX4_init, Cond.code yX4_init cX4_init 2 none, Cond.methodLink RX4 3 objectInit, Cond.classLink RX4 9 RX5, Cond.instantiable RX5 6, Cond.initialized RX5, Cond.fieldLink RX4 12 "VacantAir$State" "stations" "LVacantAir$Stations;", Cond.classLink RX4 18 RX2, Cond.instantiable RX2 8, Cond.initialized RX2, Cond.fieldLink RX4 21 "VacantAir$State" "events" "LVacantAir$Events;", Cond.classLink RX4 25 RX1, Cond.instantiable RX1 11, Cond.initialized RX1, Cond.fieldLink RX4 28 "VacantAir$State" "devices" "LVacantAir$Devices;", Cond.arrayClass .int]
def wsX3_init_r2 : List Cond := [Cond.fieldLink RX4 32 "VacantAir$State" "settings" "[I", Cond.instanceMethod yX5_init, Cond.code yX5_init cX5_init 1 none, Cond.methodLink RX5 3 objectInit, Cond.fieldLink RX5 9 "VacantAir$Stations" "x" "[I", Cond.fieldLink RX5 15 "VacantAir$Stations" "y" "[I", Cond.fieldLink RX5 18 "VacantAir$Stations" "channel" "[I", Cond.fieldLink RX5 21 "VacantAir$Stations" "powerClass" "[I", Cond.fieldLink RX5 24 "VacantAir$Stations" "awake" "[I", Cond.instanceMethod yX2_init, Cond.code yX2_init cX2_init 1 none, Cond.methodLink RX2 3 objectInit, Cond.fieldLink RX2 9 "VacantAir$Events" "x" "[I", Cond.fieldLink RX2 15 "VacantAir$Events" "y" "[I", Cond.fieldLink RX2 18 "VacantAir$Events" "radius" "[I", Cond.fieldLink RX2 21 "VacantAir$Events" "channel" "[I", Cond.fieldLink RX2 24 "VacantAir$Events" "from" "[I", Cond.fieldLink RX2 27 "VacantAir$Events" "to" "[I", Cond.fieldLink RX2 30 "VacantAir$Events" "cancelled" "[I", Cond.instanceMethod yX1_init, Cond.code yX1_init cX1_init 1 none, Cond.methodLink RX1 3 objectInit, Cond.fieldLink RX1 9 "VacantAir$Devices" "x" "[I", Cond.fieldLink RX1 15 "VacantAir$Devices" "y" "[I"]
def wsX3_init_r3 : List Cond := [Cond.fieldLink RX1 18 "VacantAir$Devices" "greatest" "[I", Cond.fieldLink RX1 21 "VacantAir$Devices" "channel" "[I", Cond.fieldLink RX1 24 "VacantAir$Devices" "power" "[I", Cond.fieldLink RX1 27 "VacantAir$Devices" "end" "[I", Cond.fieldLink RX1 30 "VacantAir$Devices" "notice" "[I", Cond.fieldLink RX1 33 "VacantAir$Devices" "hops" "[I", Cond.fieldLink RX1 36 "VacantAir$Devices" "struck" "[I", Cond.fieldLink RX1 39 "VacantAir$Devices" "cut" "[I"]
def wsX3_init : List Cond := .code yX3_init cX3_init 2 none :: ((wsX3_init_r1 ++ (wsX3_init_r2 ++ wsX3_init_r3)) ++ wsX30 ++ wsX40 ++ wsX50 ++ wsX20 ++ wsX10)
def wsX6_init_r1 : List Cond := [Cond.methodLink RX6 1 objectInit, Cond.instanceMethod objectInit, Cond.code objectInit ⟨#[0xb1]⟩ 1 none, Cond.classLink RX6 7 RX4, Cond.instantiable RX4 6, Cond.initialized RX4, Cond.fieldLink RX6 10 "VacantAir" "present" "LVacantAir$State;", Cond.fieldLink RX6 16 "VacantAir" "trial" "LVacantAir$State;", Cond.classLink RX6 19 RX3, Cond.instantiable RX3 3, Cond.initialized RX3, Cond.fieldLink RX6 22 "VacantAir" "history" "LVacantAir$History;", Cond.fieldLink RX6 26 "VacantAir" "slots" "[LVacantAir$State;", Cond.arrayClass .boolean, Cond.fieldLink RX6 30 "VacantAir" "slotHolds" "[Z", Cond.classLink RX6 34 RX0, Cond.instantiable RX0 8, Cond.initialized RX0, Cond.fieldLink RX6 37 "VacantAir" "text" "LVacantAir$ActText;", Cond.methodLink RX6 9 yX4_init, Cond.instanceMethod yX4_init, Cond.code yX4_init cX4_init 2 none, Cond.methodLink RX4 3 objectInit, Cond.classLink RX4 9 RX5]
def wsX6_init_r2 : List Cond := [Cond.instantiable RX5 6, Cond.initialized RX5, Cond.fieldLink RX4 12 "VacantAir$State" "stations" "LVacantAir$Stations;", Cond.classLink RX4 18 RX2, Cond.instantiable RX2 8, Cond.initialized RX2, Cond.fieldLink RX4 21 "VacantAir$State" "events" "LVacantAir$Events;", Cond.classLink RX4 25 RX1, Cond.instantiable RX1 11, Cond.initialized RX1, Cond.fieldLink RX4 28 "VacantAir$State" "devices" "LVacantAir$Devices;", Cond.arrayClass .int, Cond.fieldLink RX4 32 "VacantAir$State" "settings" "[I", Cond.instanceMethod yX5_init, Cond.code yX5_init cX5_init 1 none, Cond.methodLink RX5 3 objectInit, Cond.fieldLink RX5 9 "VacantAir$Stations" "x" "[I", Cond.fieldLink RX5 15 "VacantAir$Stations" "y" "[I", Cond.fieldLink RX5 18 "VacantAir$Stations" "channel" "[I", Cond.fieldLink RX5 21 "VacantAir$Stations" "powerClass" "[I", Cond.fieldLink RX5 24 "VacantAir$Stations" "awake" "[I", Cond.instanceMethod yX2_init, Cond.code yX2_init cX2_init 1 none, Cond.methodLink RX2 3 objectInit]
def wsX6_init_r3 : List Cond := [Cond.fieldLink RX2 9 "VacantAir$Events" "x" "[I", Cond.fieldLink RX2 15 "VacantAir$Events" "y" "[I", Cond.fieldLink RX2 18 "VacantAir$Events" "radius" "[I", Cond.fieldLink RX2 21 "VacantAir$Events" "channel" "[I", Cond.fieldLink RX2 24 "VacantAir$Events" "from" "[I", Cond.fieldLink RX2 27 "VacantAir$Events" "to" "[I", Cond.fieldLink RX2 30 "VacantAir$Events" "cancelled" "[I", Cond.instanceMethod yX1_init, Cond.code yX1_init cX1_init 1 none, Cond.methodLink RX1 3 objectInit, Cond.fieldLink RX1 9 "VacantAir$Devices" "x" "[I", Cond.fieldLink RX1 15 "VacantAir$Devices" "y" "[I", Cond.fieldLink RX1 18 "VacantAir$Devices" "greatest" "[I", Cond.fieldLink RX1 21 "VacantAir$Devices" "channel" "[I", Cond.fieldLink RX1 24 "VacantAir$Devices" "power" "[I", Cond.fieldLink RX1 27 "VacantAir$Devices" "end" "[I", Cond.fieldLink RX1 30 "VacantAir$Devices" "notice" "[I", Cond.fieldLink RX1 33 "VacantAir$Devices" "hops" "[I", Cond.fieldLink RX1 36 "VacantAir$Devices" "struck" "[I", Cond.fieldLink RX1 39 "VacantAir$Devices" "cut" "[I", Cond.methodLink RX6 21 yX3_init, Cond.instanceMethod yX3_init, Cond.code yX3_init cX3_init 2 none, Cond.methodLink RX3 3 objectInit]
def wsX6_init_r4 : List Cond := [Cond.classLink RX3 9 RX4, Cond.fieldLink RX3 11 "VacantAir$History" "ring" "[LVacantAir$State;", Cond.methodLink RX3 17 yX4_init, Cond.instanceMethod yX0_init, Cond.code yX0_init cX0_init 1 none, Cond.methodLink RX0 3 objectInit, Cond.fieldLink RX0 9 "VacantAir$ActText" "bytes" "[I", Cond.fieldLink RX0 15 "VacantAir$ActText" "fault" "I"]
def wsX6_init : List Cond := .code yX6_init cX6_init 2 none :: ((wsX6_init_r1 ++ (wsX6_init_r2 ++ (wsX6_init_r3 ++ wsX6_init_r4))) ++ wsX40 ++ wsX60 ++ wsX30 ++ wsX00 ++ wsX50 ++ wsX20 ++ wsX10)
def wsJ9_min_7cf53 : List Cond := .code yJ9_min_7cf53 cJ9_min_7cf53 2 (some .int) :: ([])
def wsL_cell : List Cond := .code yL_cell cL_cell 2 (some .int) :: ([.constant RL 7 (40503)])
def wsL_low : List Cond := .code yL_low cL_low 2 (some .int) :: ([.constant RL 8 (2147483647)])
def wsL_reach : List Cond := .code yL_reach cL_reach 1 (some .int) :: ([])
def wsL_radius : List Cond := .code yL_radius cL_radius 1 (some .int) :: ([])
def wsL_near : List Cond := .code yL_near cL_near 7 (some .boolean) :: ([])
def wsL_allowed : List Cond := .code yL_allowed cL_allowed 11 (some .boolean) :: ([.methodLink RL 9 yL_radius, .static yL_radius, .initialized RL, .code yL_radius cL_radius 1 (some .int), .methodLink RL 15 yL_reach, .static yL_reach, .code yL_reach cL_reach 1 (some .int), .methodLink RL 18 yL_near, .static yL_near, .code yL_near cL_near 7 (some .boolean)])
def wsL_may : List Cond := .code yL_may cL_may 7 (some .boolean) :: ([.methodLink RL 22 yL_allowed, .static yL_allowed, .initialized RL, .code yL_allowed cL_allowed 11 (some .boolean), .methodLink RL 9 yL_radius, .static yL_radius, .code yL_radius cL_radius 1 (some .int), .methodLink RL 15 yL_reach, .static yL_reach, .code yL_reach cL_reach 1 (some .int), .methodLink RL 18 yL_near, .static yL_near, .code yL_near cL_near 7 (some .boolean)])
def wsL_offer : List Cond := .code yL_offer cL_offer 13 (some .int) :: ([.methodLink RL 26 yL_may, .static yL_may, .initialized RL, .code yL_may cL_may 7 (some .boolean), .methodLink RL 22 yL_allowed, .static yL_allowed, .code yL_allowed cL_allowed 11 (some .boolean), .methodLink RL 9 yL_radius, .static yL_radius, .code yL_radius cL_radius 1 (some .int), .methodLink RL 15 yL_reach, .static yL_reach, .code yL_reach cL_reach 1 (some .int), .methodLink RL 18 yL_near, .static yL_near, .code yL_near cL_near 7 (some .boolean)])
def wsL_review : List Cond := .code yL_review cL_review 7 none :: ([.methodLink RL 26 yL_may, .static yL_may, .initialized RL, .code yL_may cL_may 7 (some .boolean), .methodLink RL 22 yL_allowed, .static yL_allowed, .code yL_allowed cL_allowed 11 (some .boolean), .methodLink RL 9 yL_radius, .static yL_radius, .code yL_radius cL_radius 1 (some .int), .methodLink RL 15 yL_reach, .static yL_reach, .code yL_reach cL_reach 1 (some .int), .methodLink RL 18 yL_near, .static yL_near, .code yL_near cL_near 7 (some .boolean)])
def wsL_ends : List Cond := .code yL_ends cL_ends 4 none :: ([])
def wsL_notices : List Cond := .code yL_notices cL_notices 4 (some .int) :: ([])
def wsL_leases : List Cond := .code yL_leases cL_leases 4 (some .int) :: ([])
def wsL_hour_r1 : List Cond := [Cond.methodLink RL 30 yL_ends, Cond.static yL_ends, Cond.initialized RL, Cond.code yL_ends cL_ends 4 none, Cond.methodLink RL 34 yL_review, Cond.static yL_review, Cond.code yL_review cL_review 7 none, Cond.methodLink RL 26 yL_may, Cond.static yL_may, Cond.code yL_may cL_may 7 (some .boolean), Cond.methodLink RL 22 yL_allowed, Cond.static yL_allowed, Cond.code yL_allowed cL_allowed 11 (some .boolean), Cond.methodLink RL 9 yL_radius, Cond.static yL_radius, Cond.code yL_radius cL_radius 1 (some .int), Cond.methodLink RL 15 yL_reach, Cond.static yL_reach, Cond.code yL_reach cL_reach 1 (some .int), Cond.methodLink RL 18 yL_near, Cond.static yL_near, Cond.code yL_near cL_near 7 (some .boolean), Cond.methodLink RL 38 yL_offer, Cond.static yL_offer]
def wsL_hour_r2 : List Cond := [Cond.code yL_offer cL_offer 13 (some .int)]
def wsL_hour : List Cond := .code yL_hour cL_hour 10 (some .int) :: ((wsL_hour_r1 ++ wsL_hour_r2))
def wsL_adds_r1 : List Cond := [Cond.methodLink RL 42 yX6_addStation, Cond.instanceMethod yX6_addStation, Cond.selects RX6 yX6_addStation yX6_addStation, Cond.initialized RX6, Cond.code yX6_addStation cX6_addStation 5 (some .int), Cond.fieldLink RX6 22 "VacantAir" "history" "LVacantAir$History;", Cond.fieldLink RX6 10 "VacantAir" "present" "LVacantAir$State;", Cond.methodLink RX6 41 yX3_note, Cond.instanceMethod yX3_note, Cond.selects RX3 yX3_note yX3_note, Cond.initialized RX3, Cond.code yX3_note cX3_note 2 none, Cond.fieldLink RX3 11 "VacantAir$History" "ring" "[LVacantAir$State;", Cond.fieldLink RX3 18 "VacantAir$History" "oldest" "I", Cond.fieldLink RX3 22 "VacantAir$History" "count" "I", Cond.methodLink RX3 25 yX4_copyFrom, Cond.instanceMethod yX4_copyFrom, Cond.selects RX4 yX4_copyFrom yX4_copyFrom, Cond.initialized RX4, Cond.code yX4_copyFrom cX4_copyFrom 2 none, Cond.fieldLink RX4 12 "VacantAir$State" "stations" "LVacantAir$Stations;", Cond.fieldLink RX4 21 "VacantAir$State" "events" "LVacantAir$Events;", Cond.fieldLink RX4 28 "VacantAir$State" "devices" "LVacantAir$Devices;", Cond.fieldLink RX4 32 "VacantAir$State" "settings" "[I"]
def wsL_adds_r2 : List Cond := [Cond.fieldLink RX4 53 "VacantAir$State" "hour" "I", Cond.fieldLink RX4 57 "VacantAir$State" "reason" "I", Cond.methodLink RX4 39 yX5_copyFrom, Cond.instanceMethod yX5_copyFrom, Cond.selects RX5 yX5_copyFrom yX5_copyFrom, Cond.initialized RX5, Cond.code yX5_copyFrom cX5_copyFrom 2 none, Cond.fieldLink RX5 9 "VacantAir$Stations" "x" "[I", Cond.fieldLink RX5 15 "VacantAir$Stations" "y" "[I", Cond.fieldLink RX5 18 "VacantAir$Stations" "channel" "[I", Cond.fieldLink RX5 21 "VacantAir$Stations" "powerClass" "[I", Cond.fieldLink RX5 24 "VacantAir$Stations" "awake" "[I", Cond.fieldLink RX5 27 "VacantAir$Stations" "count" "I", Cond.static yX6_copyRow, Cond.code yX6_copyRow cX6_copyRow 2 none, Cond.methodLink RX6 221 Lib.Math.min.name, Cond.static Lib.Math.min.name, Cond.initialized "java/lang/Math", Cond.code Lib.Math.min.name Lib.Math.min.code 2 (some .int), Cond.methodLink RX6 226 arraycopyName, Cond.native arraycopyName, Cond.static arraycopyName, Cond.initialized "java/lang/System", Cond.methodLink RX4 43 yX2_copyFrom]
def wsL_adds_r3 : List Cond := [Cond.instanceMethod yX2_copyFrom, Cond.selects RX2 yX2_copyFrom yX2_copyFrom, Cond.initialized RX2, Cond.code yX2_copyFrom cX2_copyFrom 2 none, Cond.fieldLink RX2 9 "VacantAir$Events" "x" "[I", Cond.fieldLink RX2 15 "VacantAir$Events" "y" "[I", Cond.fieldLink RX2 18 "VacantAir$Events" "radius" "[I", Cond.fieldLink RX2 21 "VacantAir$Events" "channel" "[I", Cond.fieldLink RX2 24 "VacantAir$Events" "from" "[I", Cond.fieldLink RX2 27 "VacantAir$Events" "to" "[I", Cond.fieldLink RX2 30 "VacantAir$Events" "cancelled" "[I", Cond.fieldLink RX2 33 "VacantAir$Events" "count" "I", Cond.methodLink RX4 46 yX1_copyFrom, Cond.instanceMethod yX1_copyFrom, Cond.selects RX1 yX1_copyFrom yX1_copyFrom, Cond.initialized RX1, Cond.code yX1_copyFrom cX1_copyFrom 2 none, Cond.fieldLink RX1 9 "VacantAir$Devices" "x" "[I", Cond.fieldLink RX1 15 "VacantAir$Devices" "y" "[I", Cond.fieldLink RX1 18 "VacantAir$Devices" "greatest" "[I", Cond.fieldLink RX1 21 "VacantAir$Devices" "channel" "[I", Cond.fieldLink RX1 24 "VacantAir$Devices" "power" "[I", Cond.fieldLink RX1 27 "VacantAir$Devices" "end" "[I", Cond.fieldLink RX1 30 "VacantAir$Devices" "notice" "[I"]
def wsL_adds_r4 : List Cond := [Cond.fieldLink RX1 33 "VacantAir$Devices" "hops" "[I", Cond.fieldLink RX1 36 "VacantAir$Devices" "struck" "[I", Cond.fieldLink RX1 39 "VacantAir$Devices" "cut" "[I", Cond.fieldLink RX1 42 "VacantAir$Devices" "count" "I", Cond.methodLink RX6 45 yX4_putStation, Cond.instanceMethod yX4_putStation, Cond.selects RX4 yX4_putStation yX4_putStation, Cond.code yX4_putStation cX4_putStation 6 (some .int), Cond.fieldLink RX4 68 "VacantAir$Stations" "count" "I", Cond.fieldLink RX4 71 "VacantAir$Stations" "x" "[I", Cond.fieldLink RX4 74 "VacantAir$Stations" "y" "[I", Cond.fieldLink RX4 77 "VacantAir$Stations" "channel" "[I", Cond.fieldLink RX4 80 "VacantAir$Stations" "powerClass" "[I", Cond.fieldLink RX4 83 "VacantAir$Stations" "awake" "[I", Cond.static yX6_isNoPlace, Cond.code yX6_isNoPlace cX6_isNoPlace 2 (some .boolean), Cond.methodLink RX6 122 yX6_isOutside, Cond.static yX6_isOutside, Cond.code yX6_isOutside cX6_isOutside 3 (some .boolean), Cond.methodLink RX6 49 yX6_recorded, Cond.instanceMethod yX6_recorded, Cond.selects RX6 yX6_recorded yX6_recorded, Cond.code yX6_recorded cX6_recorded 2 (some .int), Cond.methodLink RX6 215 yX3_keepNoted]
def wsL_adds_r5 : List Cond := [Cond.instanceMethod yX3_keepNoted, Cond.selects RX3 yX3_keepNoted yX3_keepNoted, Cond.code yX3_keepNoted cX3_keepNoted 1 none, Cond.methodLink RL 48 yX6_addEvent, Cond.instanceMethod yX6_addEvent, Cond.selects RX6 yX6_addEvent yX6_addEvent, Cond.code yX6_addEvent cX6_addEvent 7 (some .int), Cond.methodLink RX6 53 yX4_putEvent, Cond.instanceMethod yX4_putEvent, Cond.selects RX4 yX4_putEvent yX4_putEvent, Cond.code yX4_putEvent cX4_putEvent 8 (some .int), Cond.fieldLink RX4 86 "VacantAir$Events" "count" "I", Cond.fieldLink RX4 87 "VacantAir$Events" "x" "[I", Cond.fieldLink RX4 88 "VacantAir$Events" "y" "[I", Cond.fieldLink RX4 89 "VacantAir$Events" "radius" "[I", Cond.fieldLink RX4 92 "VacantAir$Events" "channel" "[I", Cond.fieldLink RX4 93 "VacantAir$Events" "from" "[I", Cond.fieldLink RX4 96 "VacantAir$Events" "to" "[I", Cond.fieldLink RX4 99 "VacantAir$Events" "cancelled" "[I", Cond.methodLink RX4 102 yX4_review, Cond.instanceMethod yX4_review, Cond.selects RX4 yX4_review yX4_review, Cond.code yX4_review cX4_review 2 none, Cond.fieldLink RX4 105 "VacantAir$Devices" "count" "I"]
def wsL_adds_r6 : List Cond := [Cond.fieldLink RX4 183 "VacantAir$Devices" "notice" "[I", Cond.methodLink RX4 155 yX1_hasLease, Cond.instanceMethod yX1_hasLease, Cond.selects RX1 yX1_hasLease yX1_hasLease, Cond.code yX1_hasLease cX1_hasLease 2 (some .boolean), Cond.methodLink RX4 180 yX4_leaseIsAllowed, Cond.instanceMethod yX4_leaseIsAllowed, Cond.selects RX4 yX4_leaseIsAllowed yX4_leaseIsAllowed, Cond.code yX4_leaseIsAllowed cX4_leaseIsAllowed 2 (some .boolean), Cond.fieldLink RX4 154 "VacantAir$Devices" "channel" "[I", Cond.fieldLink RX4 186 "VacantAir$Devices" "power" "[I", Cond.fieldLink RX4 106 "VacantAir$Devices" "x" "[I", Cond.fieldLink RX4 107 "VacantAir$Devices" "y" "[I", Cond.methodLink RX4 192 yX4_isAllowed, Cond.instanceMethod yX4_isAllowed, Cond.selects RX4 yX4_isAllowed yX4_isAllowed, Cond.code yX4_isAllowed cX4_isAllowed 7 (some .boolean), Cond.methodLink RX4 208 yX4_barredRadius, Cond.instanceMethod yX4_barredRadius, Cond.selects RX4 yX4_barredRadius yX4_barredRadius, Cond.code yX4_barredRadius cX4_barredRadius 5 (some .int), Cond.static yX6_isWithin, Cond.code yX6_isWithin cX6_isWithin 3 (some .boolean), Cond.methodLink RX4 211 yX2_isOn]
def wsL_adds_r7 : List Cond := [Cond.instanceMethod yX2_isOn, Cond.selects RX2 yX2_isOn yX2_isOn, Cond.code yX2_isOn cX2_isOn 3 (some .boolean), Cond.methodLink RX4 158 yX1_hasNotice, Cond.instanceMethod yX1_hasNotice, Cond.selects RX1 yX1_hasNotice yX1_hasNotice, Cond.code yX1_hasNotice cX1_hasNotice 2 (some .boolean), Cond.methodLink RL 34 yL_review, Cond.static yL_review, Cond.initialized RL, Cond.code yL_review cL_review 7 none, Cond.methodLink RL 26 yL_may, Cond.static yL_may, Cond.code yL_may cL_may 7 (some .boolean), Cond.methodLink RL 22 yL_allowed, Cond.static yL_allowed, Cond.code yL_allowed cL_allowed 11 (some .boolean), Cond.methodLink RL 9 yL_radius, Cond.static yL_radius, Cond.code yL_radius cL_radius 1 (some .int), Cond.methodLink RL 15 yL_reach, Cond.static yL_reach, Cond.code yL_reach cL_reach 1 (some .int), Cond.methodLink RL 18 yL_near]
def wsL_adds_r8 : List Cond := [Cond.static yL_near, Cond.code yL_near cL_near 7 (some .boolean), Cond.methodLink RL 52 yX6_addDevice, Cond.instanceMethod yX6_addDevice, Cond.selects RX6 yX6_addDevice yX6_addDevice, Cond.code yX6_addDevice cX6_addDevice 4 (some .int), Cond.methodLink RX6 57 yX4_putDevice, Cond.instanceMethod yX4_putDevice, Cond.selects RX4 yX4_putDevice yX4_putDevice, Cond.code yX4_putDevice cX4_putDevice 5 (some .int), Cond.fieldLink RX4 108 "VacantAir$Devices" "greatest" "[I", Cond.fieldLink RX4 111 "VacantAir$Devices" "hops" "[I", Cond.fieldLink RX4 114 "VacantAir$Devices" "struck" "[I", Cond.fieldLink RX4 117 "VacantAir$Devices" "cut" "[I", Cond.methodLink RX4 120 yX1_removeLease, Cond.instanceMethod yX1_removeLease, Cond.selects RX1 yX1_removeLease yX1_removeLease, Cond.code yX1_removeLease cX1_removeLease 2 none, Cond.methodLink RL 30 yL_ends, Cond.static yL_ends, Cond.code yL_ends cL_ends 4 none]
def wsL_adds : List Cond := .code yL_adds cL_adds 15 (some .boolean) :: ((wsL_adds_r1 ++ (wsL_adds_r2 ++ (wsL_adds_r3 ++ (wsL_adds_r4 ++ (wsL_adds_r5 ++ (wsL_adds_r6 ++ (wsL_adds_r7 ++ wsL_adds_r8))))))) ++ wsX60 ++ wsX30 ++ wsX40 ++ wsX50 ++ wsX20 ++ wsX10)
def wsL_turns_r1 : List Cond := [Cond.methodLink RL 56 yX6_wake, Cond.instanceMethod yX6_wake, Cond.selects RX6 yX6_wake yX6_wake, Cond.initialized RX6, Cond.code yX6_wake cX6_wake 2 (some .int), Cond.fieldLink RX6 22 "VacantAir" "history" "LVacantAir$History;", Cond.fieldLink RX6 10 "VacantAir" "present" "LVacantAir$State;", Cond.methodLink RX6 41 yX3_note, Cond.instanceMethod yX3_note, Cond.selects RX3 yX3_note yX3_note, Cond.initialized RX3, Cond.code yX3_note cX3_note 2 none, Cond.fieldLink RX3 11 "VacantAir$History" "ring" "[LVacantAir$State;", Cond.fieldLink RX3 18 "VacantAir$History" "oldest" "I", Cond.fieldLink RX3 22 "VacantAir$History" "count" "I", Cond.methodLink RX3 25 yX4_copyFrom, Cond.instanceMethod yX4_copyFrom, Cond.selects RX4 yX4_copyFrom yX4_copyFrom, Cond.initialized RX4, Cond.code yX4_copyFrom cX4_copyFrom 2 none, Cond.fieldLink RX4 12 "VacantAir$State" "stations" "LVacantAir$Stations;", Cond.fieldLink RX4 21 "VacantAir$State" "events" "LVacantAir$Events;", Cond.fieldLink RX4 28 "VacantAir$State" "devices" "LVacantAir$Devices;", Cond.fieldLink RX4 32 "VacantAir$State" "settings" "[I"]
def wsL_turns_r2 : List Cond := [Cond.fieldLink RX4 53 "VacantAir$State" "hour" "I", Cond.fieldLink RX4 57 "VacantAir$State" "reason" "I", Cond.methodLink RX4 39 yX5_copyFrom, Cond.instanceMethod yX5_copyFrom, Cond.selects RX5 yX5_copyFrom yX5_copyFrom, Cond.initialized RX5, Cond.code yX5_copyFrom cX5_copyFrom 2 none, Cond.fieldLink RX5 9 "VacantAir$Stations" "x" "[I", Cond.fieldLink RX5 15 "VacantAir$Stations" "y" "[I", Cond.fieldLink RX5 18 "VacantAir$Stations" "channel" "[I", Cond.fieldLink RX5 21 "VacantAir$Stations" "powerClass" "[I", Cond.fieldLink RX5 24 "VacantAir$Stations" "awake" "[I", Cond.fieldLink RX5 27 "VacantAir$Stations" "count" "I", Cond.static yX6_copyRow, Cond.code yX6_copyRow cX6_copyRow 2 none, Cond.methodLink RX6 221 Lib.Math.min.name, Cond.static Lib.Math.min.name, Cond.initialized "java/lang/Math", Cond.code Lib.Math.min.name Lib.Math.min.code 2 (some .int), Cond.methodLink RX6 226 arraycopyName, Cond.native arraycopyName, Cond.static arraycopyName, Cond.initialized "java/lang/System", Cond.methodLink RX4 43 yX2_copyFrom]
def wsL_turns_r3 : List Cond := [Cond.instanceMethod yX2_copyFrom, Cond.selects RX2 yX2_copyFrom yX2_copyFrom, Cond.initialized RX2, Cond.code yX2_copyFrom cX2_copyFrom 2 none, Cond.fieldLink RX2 9 "VacantAir$Events" "x" "[I", Cond.fieldLink RX2 15 "VacantAir$Events" "y" "[I", Cond.fieldLink RX2 18 "VacantAir$Events" "radius" "[I", Cond.fieldLink RX2 21 "VacantAir$Events" "channel" "[I", Cond.fieldLink RX2 24 "VacantAir$Events" "from" "[I", Cond.fieldLink RX2 27 "VacantAir$Events" "to" "[I", Cond.fieldLink RX2 30 "VacantAir$Events" "cancelled" "[I", Cond.fieldLink RX2 33 "VacantAir$Events" "count" "I", Cond.methodLink RX4 46 yX1_copyFrom, Cond.instanceMethod yX1_copyFrom, Cond.selects RX1 yX1_copyFrom yX1_copyFrom, Cond.initialized RX1, Cond.code yX1_copyFrom cX1_copyFrom 2 none, Cond.fieldLink RX1 9 "VacantAir$Devices" "x" "[I", Cond.fieldLink RX1 15 "VacantAir$Devices" "y" "[I", Cond.fieldLink RX1 18 "VacantAir$Devices" "greatest" "[I", Cond.fieldLink RX1 21 "VacantAir$Devices" "channel" "[I", Cond.fieldLink RX1 24 "VacantAir$Devices" "power" "[I", Cond.fieldLink RX1 27 "VacantAir$Devices" "end" "[I", Cond.fieldLink RX1 30 "VacantAir$Devices" "notice" "[I"]
def wsL_turns_r4 : List Cond := [Cond.fieldLink RX1 33 "VacantAir$Devices" "hops" "[I", Cond.fieldLink RX1 36 "VacantAir$Devices" "struck" "[I", Cond.fieldLink RX1 39 "VacantAir$Devices" "cut" "[I", Cond.fieldLink RX1 42 "VacantAir$Devices" "count" "I", Cond.methodLink RX6 65 yX4_turnStation, Cond.instanceMethod yX4_turnStation, Cond.selects RX4 yX4_turnStation yX4_turnStation, Cond.code yX4_turnStation cX4_turnStation 3 (some .int), Cond.fieldLink RX4 83 "VacantAir$Stations" "awake" "[I", Cond.methodLink RX4 130 yX5_has, Cond.instanceMethod yX5_has, Cond.selects RX5 yX5_has yX5_has, Cond.code yX5_has cX5_has 2 (some .boolean), Cond.methodLink RX4 102 yX4_review, Cond.instanceMethod yX4_review, Cond.selects RX4 yX4_review yX4_review, Cond.code yX4_review cX4_review 2 none, Cond.fieldLink RX4 105 "VacantAir$Devices" "count" "I", Cond.fieldLink RX4 183 "VacantAir$Devices" "notice" "[I", Cond.methodLink RX4 155 yX1_hasLease, Cond.instanceMethod yX1_hasLease, Cond.selects RX1 yX1_hasLease yX1_hasLease, Cond.code yX1_hasLease cX1_hasLease 2 (some .boolean), Cond.methodLink RX4 180 yX4_leaseIsAllowed]
def wsL_turns_r5 : List Cond := [Cond.instanceMethod yX4_leaseIsAllowed, Cond.selects RX4 yX4_leaseIsAllowed yX4_leaseIsAllowed, Cond.code yX4_leaseIsAllowed cX4_leaseIsAllowed 2 (some .boolean), Cond.fieldLink RX4 154 "VacantAir$Devices" "channel" "[I", Cond.fieldLink RX4 186 "VacantAir$Devices" "power" "[I", Cond.fieldLink RX4 106 "VacantAir$Devices" "x" "[I", Cond.fieldLink RX4 107 "VacantAir$Devices" "y" "[I", Cond.methodLink RX4 192 yX4_isAllowed, Cond.instanceMethod yX4_isAllowed, Cond.selects RX4 yX4_isAllowed yX4_isAllowed, Cond.code yX4_isAllowed cX4_isAllowed 7 (some .boolean), Cond.fieldLink RX4 68 "VacantAir$Stations" "count" "I", Cond.fieldLink RX4 71 "VacantAir$Stations" "x" "[I", Cond.fieldLink RX4 74 "VacantAir$Stations" "y" "[I", Cond.fieldLink RX4 86 "VacantAir$Events" "count" "I", Cond.fieldLink RX4 92 "VacantAir$Events" "channel" "[I", Cond.fieldLink RX4 87 "VacantAir$Events" "x" "[I", Cond.fieldLink RX4 88 "VacantAir$Events" "y" "[I", Cond.fieldLink RX4 89 "VacantAir$Events" "radius" "[I", Cond.methodLink RX4 208 yX4_barredRadius, Cond.instanceMethod yX4_barredRadius, Cond.selects RX4 yX4_barredRadius yX4_barredRadius, Cond.code yX4_barredRadius cX4_barredRadius 5 (some .int), Cond.fieldLink RX4 80 "VacantAir$Stations" "powerClass" "[I"]
def wsL_turns_r6 : List Cond := [Cond.fieldLink RX4 77 "VacantAir$Stations" "channel" "[I", Cond.static yX6_isWithin, Cond.code yX6_isWithin cX6_isWithin 3 (some .boolean), Cond.methodLink RX4 211 yX2_isOn, Cond.instanceMethod yX2_isOn, Cond.selects RX2 yX2_isOn yX2_isOn, Cond.code yX2_isOn cX2_isOn 3 (some .boolean), Cond.methodLink RX4 158 yX1_hasNotice, Cond.instanceMethod yX1_hasNotice, Cond.selects RX1 yX1_hasNotice yX1_hasNotice, Cond.code yX1_hasNotice cX1_hasNotice 2 (some .boolean), Cond.methodLink RX4 134 yX1_countNotices, Cond.instanceMethod yX1_countNotices, Cond.selects RX1 yX1_countNotices yX1_countNotices, Cond.code yX1_countNotices cX1_countNotices 3 (some .int), Cond.methodLink RX1 50 yX1_hasNotice, Cond.methodLink RX6 49 yX6_recorded, Cond.instanceMethod yX6_recorded, Cond.selects RX6 yX6_recorded yX6_recorded, Cond.code yX6_recorded cX6_recorded 2 (some .int), Cond.methodLink RX6 215 yX3_keepNoted, Cond.instanceMethod yX3_keepNoted, Cond.selects RX3 yX3_keepNoted yX3_keepNoted, Cond.code yX3_keepNoted cX3_keepNoted 1 none]
def wsL_turns_r7 : List Cond := [Cond.methodLink RL 59 yX6_sleep, Cond.instanceMethod yX6_sleep, Cond.selects RX6 yX6_sleep yX6_sleep, Cond.code yX6_sleep cX6_sleep 2 (some .int), Cond.methodLink RL 34 yL_review, Cond.static yL_review, Cond.initialized RL, Cond.code yL_review cL_review 7 none, Cond.methodLink RL 26 yL_may, Cond.static yL_may, Cond.code yL_may cL_may 7 (some .boolean), Cond.methodLink RL 22 yL_allowed, Cond.static yL_allowed, Cond.code yL_allowed cL_allowed 11 (some .boolean), Cond.methodLink RL 9 yL_radius, Cond.static yL_radius, Cond.code yL_radius cL_radius 1 (some .int), Cond.methodLink RL 15 yL_reach, Cond.static yL_reach, Cond.code yL_reach cL_reach 1 (some .int), Cond.methodLink RL 18 yL_near, Cond.static yL_near, Cond.code yL_near cL_near 7 (some .boolean), Cond.methodLink RL 62 yL_notices]
def wsL_turns_r8 : List Cond := [Cond.static yL_notices, Cond.code yL_notices cL_notices 4 (some .int), Cond.methodLink RL 66 yX6_cancel, Cond.instanceMethod yX6_cancel, Cond.selects RX6 yX6_cancel yX6_cancel, Cond.code yX6_cancel cX6_cancel 2 (some .int), Cond.methodLink RX6 68 yX4_callOff, Cond.instanceMethod yX4_callOff, Cond.selects RX4 yX4_callOff yX4_callOff, Cond.code yX4_callOff cX4_callOff 2 (some .int), Cond.fieldLink RX4 99 "VacantAir$Events" "cancelled" "[I", Cond.fieldLink RX4 96 "VacantAir$Events" "to" "[I", Cond.methodLink RX4 138 yX2_has, Cond.instanceMethod yX2_has, Cond.selects RX2 yX2_has yX2_has, Cond.code yX2_has cX2_has 2 (some .boolean), Cond.methodLink RL 69 yX6_set, Cond.instanceMethod yX6_set, Cond.selects RX6 yX6_set yX6_set, Cond.code yX6_set cX6_set 3 (some .int), Cond.methodLink RX6 61 yX4_change, Cond.instanceMethod yX4_change, Cond.selects RX4 yX4_change yX4_change, Cond.code yX4_change cX4_change 4 (some .int)]
def wsL_turns_r9 : List Cond := [Cond.static yX6_isOutside, Cond.code yX6_isOutside cX6_isOutside 3 (some .boolean)]
def wsL_turns : List Cond := .code yL_turns cL_turns 10 (some .boolean) :: ((wsL_turns_r1 ++ (wsL_turns_r2 ++ (wsL_turns_r3 ++ (wsL_turns_r4 ++ (wsL_turns_r5 ++ (wsL_turns_r6 ++ (wsL_turns_r7 ++ (wsL_turns_r8 ++ wsL_turns_r9)))))))) ++ wsX60 ++ wsX30 ++ wsX40 ++ wsX50 ++ wsX20 ++ wsX10)
def wsL_leased_r1 : List Cond := [Cond.methodLink RL 26 yL_may, Cond.static yL_may, Cond.initialized RL, Cond.code yL_may cL_may 7 (some .boolean), Cond.methodLink RL 22 yL_allowed, Cond.static yL_allowed, Cond.code yL_allowed cL_allowed 11 (some .boolean), Cond.methodLink RL 9 yL_radius, Cond.static yL_radius, Cond.code yL_radius cL_radius 1 (some .int), Cond.methodLink RL 15 yL_reach, Cond.static yL_reach, Cond.code yL_reach cL_reach 1 (some .int), Cond.methodLink RL 18 yL_near, Cond.static yL_near, Cond.code yL_near cL_near 7 (some .boolean), Cond.methodLink RL 38 yL_offer, Cond.static yL_offer, Cond.code yL_offer cL_offer 13 (some .int), Cond.methodLink RL 73 yX6_lease, Cond.instanceMethod yX6_lease, Cond.selects RX6 yX6_lease yX6_lease, Cond.initialized RX6, Cond.code yX6_lease cX6_lease 4 (some .int)]
def wsL_leased_r2 : List Cond := [Cond.fieldLink RX6 22 "VacantAir" "history" "LVacantAir$History;", Cond.fieldLink RX6 10 "VacantAir" "present" "LVacantAir$State;", Cond.methodLink RX6 41 yX3_note, Cond.instanceMethod yX3_note, Cond.selects RX3 yX3_note yX3_note, Cond.initialized RX3, Cond.code yX3_note cX3_note 2 none, Cond.fieldLink RX3 11 "VacantAir$History" "ring" "[LVacantAir$State;", Cond.fieldLink RX3 18 "VacantAir$History" "oldest" "I", Cond.fieldLink RX3 22 "VacantAir$History" "count" "I", Cond.methodLink RX3 25 yX4_copyFrom, Cond.instanceMethod yX4_copyFrom, Cond.selects RX4 yX4_copyFrom yX4_copyFrom, Cond.initialized RX4, Cond.code yX4_copyFrom cX4_copyFrom 2 none, Cond.fieldLink RX4 12 "VacantAir$State" "stations" "LVacantAir$Stations;", Cond.fieldLink RX4 21 "VacantAir$State" "events" "LVacantAir$Events;", Cond.fieldLink RX4 28 "VacantAir$State" "devices" "LVacantAir$Devices;", Cond.fieldLink RX4 32 "VacantAir$State" "settings" "[I", Cond.fieldLink RX4 53 "VacantAir$State" "hour" "I", Cond.fieldLink RX4 57 "VacantAir$State" "reason" "I", Cond.methodLink RX4 39 yX5_copyFrom, Cond.instanceMethod yX5_copyFrom, Cond.selects RX5 yX5_copyFrom yX5_copyFrom]
def wsL_leased_r3 : List Cond := [Cond.initialized RX5, Cond.code yX5_copyFrom cX5_copyFrom 2 none, Cond.fieldLink RX5 9 "VacantAir$Stations" "x" "[I", Cond.fieldLink RX5 15 "VacantAir$Stations" "y" "[I", Cond.fieldLink RX5 18 "VacantAir$Stations" "channel" "[I", Cond.fieldLink RX5 21 "VacantAir$Stations" "powerClass" "[I", Cond.fieldLink RX5 24 "VacantAir$Stations" "awake" "[I", Cond.fieldLink RX5 27 "VacantAir$Stations" "count" "I", Cond.static yX6_copyRow, Cond.code yX6_copyRow cX6_copyRow 2 none, Cond.methodLink RX6 221 Lib.Math.min.name, Cond.static Lib.Math.min.name, Cond.initialized "java/lang/Math", Cond.code Lib.Math.min.name Lib.Math.min.code 2 (some .int), Cond.methodLink RX6 226 arraycopyName, Cond.native arraycopyName, Cond.static arraycopyName, Cond.initialized "java/lang/System", Cond.methodLink RX4 43 yX2_copyFrom, Cond.instanceMethod yX2_copyFrom, Cond.selects RX2 yX2_copyFrom yX2_copyFrom, Cond.initialized RX2, Cond.code yX2_copyFrom cX2_copyFrom 2 none, Cond.fieldLink RX2 9 "VacantAir$Events" "x" "[I"]
def wsL_leased_r4 : List Cond := [Cond.fieldLink RX2 15 "VacantAir$Events" "y" "[I", Cond.fieldLink RX2 18 "VacantAir$Events" "radius" "[I", Cond.fieldLink RX2 21 "VacantAir$Events" "channel" "[I", Cond.fieldLink RX2 24 "VacantAir$Events" "from" "[I", Cond.fieldLink RX2 27 "VacantAir$Events" "to" "[I", Cond.fieldLink RX2 30 "VacantAir$Events" "cancelled" "[I", Cond.fieldLink RX2 33 "VacantAir$Events" "count" "I", Cond.methodLink RX4 46 yX1_copyFrom, Cond.instanceMethod yX1_copyFrom, Cond.selects RX1 yX1_copyFrom yX1_copyFrom, Cond.initialized RX1, Cond.code yX1_copyFrom cX1_copyFrom 2 none, Cond.fieldLink RX1 9 "VacantAir$Devices" "x" "[I", Cond.fieldLink RX1 15 "VacantAir$Devices" "y" "[I", Cond.fieldLink RX1 18 "VacantAir$Devices" "greatest" "[I", Cond.fieldLink RX1 21 "VacantAir$Devices" "channel" "[I", Cond.fieldLink RX1 24 "VacantAir$Devices" "power" "[I", Cond.fieldLink RX1 27 "VacantAir$Devices" "end" "[I", Cond.fieldLink RX1 30 "VacantAir$Devices" "notice" "[I", Cond.fieldLink RX1 33 "VacantAir$Devices" "hops" "[I", Cond.fieldLink RX1 36 "VacantAir$Devices" "struck" "[I", Cond.fieldLink RX1 39 "VacantAir$Devices" "cut" "[I", Cond.fieldLink RX1 42 "VacantAir$Devices" "count" "I", Cond.methodLink RX6 71 yX4_makeLease]
def wsL_leased_r5 : List Cond := [Cond.instanceMethod yX4_makeLease, Cond.selects RX4 yX4_makeLease yX4_makeLease, Cond.code yX4_makeLease cX4_makeLease 4 (some .int), Cond.fieldLink RX4 151 "VacantAir$Devices" "end" "[I", Cond.fieldLink RX4 154 "VacantAir$Devices" "channel" "[I", Cond.methodLink RX4 139 yX1_has, Cond.instanceMethod yX1_has, Cond.selects RX1 yX1_has yX1_has, Cond.code yX1_has cX1_has 2 (some .boolean), Cond.static yX6_isOutside, Cond.code yX6_isOutside cX6_isOutside 3 (some .boolean), Cond.methodLink RX4 140 yX4_refusal, Cond.instanceMethod yX4_refusal, Cond.selects RX4 yX4_refusal yX4_refusal, Cond.code yX4_refusal cX4_refusal 3 (some .int), Cond.fieldLink RX4 108 "VacantAir$Devices" "greatest" "[I", Cond.methodLink RX4 155 yX1_hasLease, Cond.instanceMethod yX1_hasLease, Cond.selects RX1 yX1_hasLease yX1_hasLease, Cond.code yX1_hasLease cX1_hasLease 2 (some .boolean), Cond.methodLink RX4 189 yX4_isAllowedOnAny, Cond.instanceMethod yX4_isAllowedOnAny, Cond.selects RX4 yX4_isAllowedOnAny yX4_isAllowedOnAny, Cond.code yX4_isAllowedOnAny cX4_isAllowedOnAny 4 (some .boolean)]
def wsL_leased_r6 : List Cond := [Cond.fieldLink RX4 106 "VacantAir$Devices" "x" "[I", Cond.fieldLink RX4 107 "VacantAir$Devices" "y" "[I", Cond.methodLink RX4 192 yX4_isAllowed, Cond.instanceMethod yX4_isAllowed, Cond.selects RX4 yX4_isAllowed yX4_isAllowed, Cond.code yX4_isAllowed cX4_isAllowed 7 (some .boolean), Cond.fieldLink RX4 68 "VacantAir$Stations" "count" "I", Cond.fieldLink RX4 71 "VacantAir$Stations" "x" "[I", Cond.fieldLink RX4 74 "VacantAir$Stations" "y" "[I", Cond.fieldLink RX4 86 "VacantAir$Events" "count" "I", Cond.fieldLink RX4 92 "VacantAir$Events" "channel" "[I", Cond.fieldLink RX4 87 "VacantAir$Events" "x" "[I", Cond.fieldLink RX4 88 "VacantAir$Events" "y" "[I", Cond.fieldLink RX4 89 "VacantAir$Events" "radius" "[I", Cond.methodLink RX4 208 yX4_barredRadius, Cond.instanceMethod yX4_barredRadius, Cond.selects RX4 yX4_barredRadius yX4_barredRadius, Cond.code yX4_barredRadius cX4_barredRadius 5 (some .int), Cond.fieldLink RX4 83 "VacantAir$Stations" "awake" "[I", Cond.fieldLink RX4 80 "VacantAir$Stations" "powerClass" "[I", Cond.fieldLink RX4 77 "VacantAir$Stations" "channel" "[I", Cond.static yX6_isWithin, Cond.code yX6_isWithin cX6_isWithin 3 (some .boolean), Cond.methodLink RX4 211 yX2_isOn]
def wsL_leased_r7 : List Cond := [Cond.instanceMethod yX2_isOn, Cond.selects RX2 yX2_isOn yX2_isOn, Cond.code yX2_isOn cX2_isOn 3 (some .boolean), Cond.methodLink RX4 144 yX4_findOffer, Cond.instanceMethod yX4_findOffer, Cond.selects RX4 yX4_findOffer yX4_findOffer, Cond.code yX4_findOffer cX4_findOffer 7 (some .int), Cond.methodLink RX4 196 yX4_isFree, Cond.instanceMethod yX4_isFree, Cond.selects RX4 yX4_isFree yX4_isFree, Cond.code yX4_isFree cX4_isFree 5 (some .boolean), Cond.fieldLink RX4 105 "VacantAir$Devices" "count" "I", Cond.fieldLink RX4 186 "VacantAir$Devices" "power" "[I", Cond.methodLink RX4 199 yX1_countOn, Cond.instanceMethod yX1_countOn, Cond.selects RX1 yX1_countOn yX1_countOn, Cond.code yX1_countOn cX1_countOn 4 (some .int), Cond.methodLink RX4 147 yX1_putOn, Cond.instanceMethod yX1_putOn, Cond.selects RX1 yX1_putOn yX1_putOn, Cond.code yX1_putOn cX1_putOn 4 none, Cond.methodLink RX6 49 yX6_recorded, Cond.instanceMethod yX6_recorded, Cond.selects RX6 yX6_recorded yX6_recorded]
def wsL_leased_r8 : List Cond := [Cond.code yX6_recorded cX6_recorded 2 (some .int), Cond.methodLink RX6 215 yX3_keepNoted, Cond.instanceMethod yX3_keepNoted, Cond.selects RX3 yX3_keepNoted yX3_keepNoted, Cond.code yX3_keepNoted cX3_keepNoted 1 none, Cond.methodLink RL 76 yX6_renew, Cond.instanceMethod yX6_renew, Cond.selects RX6 yX6_renew yX6_renew, Cond.code yX6_renew cX6_renew 3 (some .int), Cond.methodLink RX6 74 yX4_prolongLease, Cond.instanceMethod yX4_prolongLease, Cond.selects RX4 yX4_prolongLease yX4_prolongLease, Cond.code yX4_prolongLease cX4_prolongLease 3 (some .int), Cond.methodLink RX4 158 yX1_hasNotice, Cond.instanceMethod yX1_hasNotice, Cond.selects RX1 yX1_hasNotice yX1_hasNotice, Cond.code yX1_hasNotice cX1_hasNotice 2 (some .boolean), Cond.methodLink RL 79 yX6_giveBack, Cond.instanceMethod yX6_giveBack, Cond.selects RX6 yX6_giveBack yX6_giveBack, Cond.code yX6_giveBack cX6_giveBack 2 (some .int), Cond.methodLink RX6 77 yX4_dropLease, Cond.instanceMethod yX4_dropLease, Cond.selects RX4 yX4_dropLease yX4_dropLease]
def wsL_leased_r9 : List Cond := [Cond.code yX4_dropLease cX4_dropLease 2 (some .int), Cond.methodLink RX4 120 yX1_removeLease, Cond.instanceMethod yX1_removeLease, Cond.selects RX1 yX1_removeLease yX1_removeLease, Cond.code yX1_removeLease cX1_removeLease 2 none, Cond.methodLink RX4 161 yX1_countLeases, Cond.instanceMethod yX1_countLeases, Cond.selects RX1 yX1_countLeases yX1_countLeases, Cond.code yX1_countLeases cX1_countLeases 3 (some .int), Cond.methodLink RX1 46 yX1_hasLease, Cond.methodLink RL 30 yL_ends, Cond.static yL_ends, Cond.code yL_ends cL_ends 4 none, Cond.methodLink RL 82 yL_leases, Cond.static yL_leases, Cond.code yL_leases cL_leases 4 (some .int)]
def wsL_leased : List Cond := .code yL_leased cL_leased 13 (some .boolean) :: ((wsL_leased_r1 ++ (wsL_leased_r2 ++ (wsL_leased_r3 ++ (wsL_leased_r4 ++ (wsL_leased_r5 ++ (wsL_leased_r6 ++ (wsL_leased_r7 ++ (wsL_leased_r8 ++ wsL_leased_r9)))))))) ++ wsX60 ++ wsX30 ++ wsX40 ++ wsX50 ++ wsX20 ++ wsX10)
def wsL_acts_r1 : List Cond := [Cond.constant RL 85 (10000000), Cond.methodLink RL 86 yL_low, Cond.static yL_low, Cond.initialized RL, Cond.code yL_low cL_low 2 (some .int), Cond.constant RL 8 (2147483647), Cond.methodLink RL 89 yL_adds, Cond.static yL_adds, Cond.code yL_adds cL_adds 15 (some .boolean), Cond.methodLink RL 42 yX6_addStation, Cond.instanceMethod yX6_addStation, Cond.selects RX6 yX6_addStation yX6_addStation, Cond.initialized RX6, Cond.code yX6_addStation cX6_addStation 5 (some .int), Cond.fieldLink RX6 22 "VacantAir" "history" "LVacantAir$History;", Cond.fieldLink RX6 10 "VacantAir" "present" "LVacantAir$State;", Cond.methodLink RX6 41 yX3_note, Cond.instanceMethod yX3_note, Cond.selects RX3 yX3_note yX3_note, Cond.initialized RX3, Cond.code yX3_note cX3_note 2 none, Cond.fieldLink RX3 11 "VacantAir$History" "ring" "[LVacantAir$State;", Cond.fieldLink RX3 18 "VacantAir$History" "oldest" "I", Cond.fieldLink RX3 22 "VacantAir$History" "count" "I"]
def wsL_acts_r2 : List Cond := [Cond.methodLink RX3 25 yX4_copyFrom, Cond.instanceMethod yX4_copyFrom, Cond.selects RX4 yX4_copyFrom yX4_copyFrom, Cond.initialized RX4, Cond.code yX4_copyFrom cX4_copyFrom 2 none, Cond.fieldLink RX4 12 "VacantAir$State" "stations" "LVacantAir$Stations;", Cond.fieldLink RX4 21 "VacantAir$State" "events" "LVacantAir$Events;", Cond.fieldLink RX4 28 "VacantAir$State" "devices" "LVacantAir$Devices;", Cond.fieldLink RX4 32 "VacantAir$State" "settings" "[I", Cond.fieldLink RX4 53 "VacantAir$State" "hour" "I", Cond.fieldLink RX4 57 "VacantAir$State" "reason" "I", Cond.methodLink RX4 39 yX5_copyFrom, Cond.instanceMethod yX5_copyFrom, Cond.selects RX5 yX5_copyFrom yX5_copyFrom, Cond.initialized RX5, Cond.code yX5_copyFrom cX5_copyFrom 2 none, Cond.fieldLink RX5 9 "VacantAir$Stations" "x" "[I", Cond.fieldLink RX5 15 "VacantAir$Stations" "y" "[I", Cond.fieldLink RX5 18 "VacantAir$Stations" "channel" "[I", Cond.fieldLink RX5 21 "VacantAir$Stations" "powerClass" "[I", Cond.fieldLink RX5 24 "VacantAir$Stations" "awake" "[I", Cond.fieldLink RX5 27 "VacantAir$Stations" "count" "I", Cond.static yX6_copyRow, Cond.code yX6_copyRow cX6_copyRow 2 none]
def wsL_acts_r3 : List Cond := [Cond.methodLink RX6 221 Lib.Math.min.name, Cond.static Lib.Math.min.name, Cond.initialized "java/lang/Math", Cond.code Lib.Math.min.name Lib.Math.min.code 2 (some .int), Cond.methodLink RX6 226 arraycopyName, Cond.native arraycopyName, Cond.static arraycopyName, Cond.initialized "java/lang/System", Cond.methodLink RX4 43 yX2_copyFrom, Cond.instanceMethod yX2_copyFrom, Cond.selects RX2 yX2_copyFrom yX2_copyFrom, Cond.initialized RX2, Cond.code yX2_copyFrom cX2_copyFrom 2 none, Cond.fieldLink RX2 9 "VacantAir$Events" "x" "[I", Cond.fieldLink RX2 15 "VacantAir$Events" "y" "[I", Cond.fieldLink RX2 18 "VacantAir$Events" "radius" "[I", Cond.fieldLink RX2 21 "VacantAir$Events" "channel" "[I", Cond.fieldLink RX2 24 "VacantAir$Events" "from" "[I", Cond.fieldLink RX2 27 "VacantAir$Events" "to" "[I", Cond.fieldLink RX2 30 "VacantAir$Events" "cancelled" "[I", Cond.fieldLink RX2 33 "VacantAir$Events" "count" "I", Cond.methodLink RX4 46 yX1_copyFrom, Cond.instanceMethod yX1_copyFrom, Cond.selects RX1 yX1_copyFrom yX1_copyFrom]
def wsL_acts_r4 : List Cond := [Cond.initialized RX1, Cond.code yX1_copyFrom cX1_copyFrom 2 none, Cond.fieldLink RX1 9 "VacantAir$Devices" "x" "[I", Cond.fieldLink RX1 15 "VacantAir$Devices" "y" "[I", Cond.fieldLink RX1 18 "VacantAir$Devices" "greatest" "[I", Cond.fieldLink RX1 21 "VacantAir$Devices" "channel" "[I", Cond.fieldLink RX1 24 "VacantAir$Devices" "power" "[I", Cond.fieldLink RX1 27 "VacantAir$Devices" "end" "[I", Cond.fieldLink RX1 30 "VacantAir$Devices" "notice" "[I", Cond.fieldLink RX1 33 "VacantAir$Devices" "hops" "[I", Cond.fieldLink RX1 36 "VacantAir$Devices" "struck" "[I", Cond.fieldLink RX1 39 "VacantAir$Devices" "cut" "[I", Cond.fieldLink RX1 42 "VacantAir$Devices" "count" "I", Cond.methodLink RX6 45 yX4_putStation, Cond.instanceMethod yX4_putStation, Cond.selects RX4 yX4_putStation yX4_putStation, Cond.code yX4_putStation cX4_putStation 6 (some .int), Cond.fieldLink RX4 68 "VacantAir$Stations" "count" "I", Cond.fieldLink RX4 71 "VacantAir$Stations" "x" "[I", Cond.fieldLink RX4 74 "VacantAir$Stations" "y" "[I", Cond.fieldLink RX4 77 "VacantAir$Stations" "channel" "[I", Cond.fieldLink RX4 80 "VacantAir$Stations" "powerClass" "[I", Cond.fieldLink RX4 83 "VacantAir$Stations" "awake" "[I", Cond.static yX6_isNoPlace]
def wsL_acts_r5 : List Cond := [Cond.code yX6_isNoPlace cX6_isNoPlace 2 (some .boolean), Cond.methodLink RX6 122 yX6_isOutside, Cond.static yX6_isOutside, Cond.code yX6_isOutside cX6_isOutside 3 (some .boolean), Cond.methodLink RX6 49 yX6_recorded, Cond.instanceMethod yX6_recorded, Cond.selects RX6 yX6_recorded yX6_recorded, Cond.code yX6_recorded cX6_recorded 2 (some .int), Cond.methodLink RX6 215 yX3_keepNoted, Cond.instanceMethod yX3_keepNoted, Cond.selects RX3 yX3_keepNoted yX3_keepNoted, Cond.code yX3_keepNoted cX3_keepNoted 1 none, Cond.methodLink RL 48 yX6_addEvent, Cond.instanceMethod yX6_addEvent, Cond.selects RX6 yX6_addEvent yX6_addEvent, Cond.code yX6_addEvent cX6_addEvent 7 (some .int), Cond.methodLink RX6 53 yX4_putEvent, Cond.instanceMethod yX4_putEvent, Cond.selects RX4 yX4_putEvent yX4_putEvent, Cond.code yX4_putEvent cX4_putEvent 8 (some .int), Cond.fieldLink RX4 86 "VacantAir$Events" "count" "I", Cond.fieldLink RX4 87 "VacantAir$Events" "x" "[I", Cond.fieldLink RX4 88 "VacantAir$Events" "y" "[I", Cond.fieldLink RX4 89 "VacantAir$Events" "radius" "[I"]
def wsL_acts_r6 : List Cond := [Cond.fieldLink RX4 92 "VacantAir$Events" "channel" "[I", Cond.fieldLink RX4 93 "VacantAir$Events" "from" "[I", Cond.fieldLink RX4 96 "VacantAir$Events" "to" "[I", Cond.fieldLink RX4 99 "VacantAir$Events" "cancelled" "[I", Cond.methodLink RX4 102 yX4_review, Cond.instanceMethod yX4_review, Cond.selects RX4 yX4_review yX4_review, Cond.code yX4_review cX4_review 2 none, Cond.fieldLink RX4 105 "VacantAir$Devices" "count" "I", Cond.fieldLink RX4 183 "VacantAir$Devices" "notice" "[I", Cond.methodLink RX4 155 yX1_hasLease, Cond.instanceMethod yX1_hasLease, Cond.selects RX1 yX1_hasLease yX1_hasLease, Cond.code yX1_hasLease cX1_hasLease 2 (some .boolean), Cond.methodLink RX4 180 yX4_leaseIsAllowed, Cond.instanceMethod yX4_leaseIsAllowed, Cond.selects RX4 yX4_leaseIsAllowed yX4_leaseIsAllowed, Cond.code yX4_leaseIsAllowed cX4_leaseIsAllowed 2 (some .boolean), Cond.fieldLink RX4 154 "VacantAir$Devices" "channel" "[I", Cond.fieldLink RX4 186 "VacantAir$Devices" "power" "[I", Cond.fieldLink RX4 106 "VacantAir$Devices" "x" "[I", Cond.fieldLink RX4 107 "VacantAir$Devices" "y" "[I", Cond.methodLink RX4 192 yX4_isAllowed, Cond.instanceMethod yX4_isAllowed]
def wsL_acts_r7 : List Cond := [Cond.selects RX4 yX4_isAllowed yX4_isAllowed, Cond.code yX4_isAllowed cX4_isAllowed 7 (some .boolean), Cond.methodLink RX4 208 yX4_barredRadius, Cond.instanceMethod yX4_barredRadius, Cond.selects RX4 yX4_barredRadius yX4_barredRadius, Cond.code yX4_barredRadius cX4_barredRadius 5 (some .int), Cond.static yX6_isWithin, Cond.code yX6_isWithin cX6_isWithin 3 (some .boolean), Cond.methodLink RX4 211 yX2_isOn, Cond.instanceMethod yX2_isOn, Cond.selects RX2 yX2_isOn yX2_isOn, Cond.code yX2_isOn cX2_isOn 3 (some .boolean), Cond.methodLink RX4 158 yX1_hasNotice, Cond.instanceMethod yX1_hasNotice, Cond.selects RX1 yX1_hasNotice yX1_hasNotice, Cond.code yX1_hasNotice cX1_hasNotice 2 (some .boolean), Cond.methodLink RL 34 yL_review, Cond.static yL_review, Cond.code yL_review cL_review 7 none, Cond.methodLink RL 26 yL_may, Cond.static yL_may, Cond.code yL_may cL_may 7 (some .boolean), Cond.methodLink RL 22 yL_allowed, Cond.static yL_allowed]
def wsL_acts_r8 : List Cond := [Cond.code yL_allowed cL_allowed 11 (some .boolean), Cond.methodLink RL 9 yL_radius, Cond.static yL_radius, Cond.code yL_radius cL_radius 1 (some .int), Cond.methodLink RL 15 yL_reach, Cond.static yL_reach, Cond.code yL_reach cL_reach 1 (some .int), Cond.methodLink RL 18 yL_near, Cond.static yL_near, Cond.code yL_near cL_near 7 (some .boolean), Cond.methodLink RL 52 yX6_addDevice, Cond.instanceMethod yX6_addDevice, Cond.selects RX6 yX6_addDevice yX6_addDevice, Cond.code yX6_addDevice cX6_addDevice 4 (some .int), Cond.methodLink RX6 57 yX4_putDevice, Cond.instanceMethod yX4_putDevice, Cond.selects RX4 yX4_putDevice yX4_putDevice, Cond.code yX4_putDevice cX4_putDevice 5 (some .int), Cond.fieldLink RX4 108 "VacantAir$Devices" "greatest" "[I", Cond.fieldLink RX4 111 "VacantAir$Devices" "hops" "[I", Cond.fieldLink RX4 114 "VacantAir$Devices" "struck" "[I", Cond.fieldLink RX4 117 "VacantAir$Devices" "cut" "[I", Cond.methodLink RX4 120 yX1_removeLease, Cond.instanceMethod yX1_removeLease]
def wsL_acts_r9 : List Cond := [Cond.selects RX1 yX1_removeLease yX1_removeLease, Cond.code yX1_removeLease cX1_removeLease 2 none, Cond.methodLink RL 30 yL_ends, Cond.static yL_ends, Cond.code yL_ends cL_ends 4 none, Cond.methodLink RL 93 yL_turns, Cond.static yL_turns, Cond.code yL_turns cL_turns 10 (some .boolean), Cond.methodLink RL 56 yX6_wake, Cond.instanceMethod yX6_wake, Cond.selects RX6 yX6_wake yX6_wake, Cond.code yX6_wake cX6_wake 2 (some .int), Cond.methodLink RX6 65 yX4_turnStation, Cond.instanceMethod yX4_turnStation, Cond.selects RX4 yX4_turnStation yX4_turnStation, Cond.code yX4_turnStation cX4_turnStation 3 (some .int), Cond.methodLink RX4 130 yX5_has, Cond.instanceMethod yX5_has, Cond.selects RX5 yX5_has yX5_has, Cond.code yX5_has cX5_has 2 (some .boolean), Cond.methodLink RX4 134 yX1_countNotices, Cond.instanceMethod yX1_countNotices, Cond.selects RX1 yX1_countNotices yX1_countNotices, Cond.code yX1_countNotices cX1_countNotices 3 (some .int)]
def wsL_acts_r10 : List Cond := [Cond.methodLink RX1 50 yX1_hasNotice, Cond.methodLink RL 59 yX6_sleep, Cond.instanceMethod yX6_sleep, Cond.selects RX6 yX6_sleep yX6_sleep, Cond.code yX6_sleep cX6_sleep 2 (some .int), Cond.methodLink RL 62 yL_notices, Cond.static yL_notices, Cond.code yL_notices cL_notices 4 (some .int), Cond.methodLink RL 66 yX6_cancel, Cond.instanceMethod yX6_cancel, Cond.selects RX6 yX6_cancel yX6_cancel, Cond.code yX6_cancel cX6_cancel 2 (some .int), Cond.methodLink RX6 68 yX4_callOff, Cond.instanceMethod yX4_callOff, Cond.selects RX4 yX4_callOff yX4_callOff, Cond.code yX4_callOff cX4_callOff 2 (some .int), Cond.methodLink RX4 138 yX2_has, Cond.instanceMethod yX2_has, Cond.selects RX2 yX2_has yX2_has, Cond.code yX2_has cX2_has 2 (some .boolean), Cond.methodLink RL 69 yX6_set, Cond.instanceMethod yX6_set, Cond.selects RX6 yX6_set yX6_set, Cond.code yX6_set cX6_set 3 (some .int)]
def wsL_acts_r11 : List Cond := [Cond.methodLink RX6 61 yX4_change, Cond.instanceMethod yX4_change, Cond.selects RX4 yX4_change yX4_change, Cond.code yX4_change cX4_change 4 (some .int), Cond.methodLink RL 73 yX6_lease, Cond.instanceMethod yX6_lease, Cond.selects RX6 yX6_lease yX6_lease, Cond.code yX6_lease cX6_lease 4 (some .int), Cond.methodLink RX6 71 yX4_makeLease, Cond.instanceMethod yX4_makeLease, Cond.selects RX4 yX4_makeLease yX4_makeLease, Cond.code yX4_makeLease cX4_makeLease 4 (some .int), Cond.fieldLink RX4 151 "VacantAir$Devices" "end" "[I", Cond.methodLink RX4 139 yX1_has, Cond.instanceMethod yX1_has, Cond.selects RX1 yX1_has yX1_has, Cond.code yX1_has cX1_has 2 (some .boolean), Cond.methodLink RX4 140 yX4_refusal, Cond.instanceMethod yX4_refusal, Cond.selects RX4 yX4_refusal yX4_refusal, Cond.code yX4_refusal cX4_refusal 3 (some .int), Cond.methodLink RX4 189 yX4_isAllowedOnAny, Cond.instanceMethod yX4_isAllowedOnAny, Cond.selects RX4 yX4_isAllowedOnAny yX4_isAllowedOnAny]
def wsL_acts_r12 : List Cond := [Cond.code yX4_isAllowedOnAny cX4_isAllowedOnAny 4 (some .boolean), Cond.methodLink RX4 144 yX4_findOffer, Cond.instanceMethod yX4_findOffer, Cond.selects RX4 yX4_findOffer yX4_findOffer, Cond.code yX4_findOffer cX4_findOffer 7 (some .int), Cond.methodLink RX4 196 yX4_isFree, Cond.instanceMethod yX4_isFree, Cond.selects RX4 yX4_isFree yX4_isFree, Cond.code yX4_isFree cX4_isFree 5 (some .boolean), Cond.methodLink RX4 199 yX1_countOn, Cond.instanceMethod yX1_countOn, Cond.selects RX1 yX1_countOn yX1_countOn, Cond.code yX1_countOn cX1_countOn 4 (some .int), Cond.methodLink RX4 147 yX1_putOn, Cond.instanceMethod yX1_putOn, Cond.selects RX1 yX1_putOn yX1_putOn, Cond.code yX1_putOn cX1_putOn 4 none, Cond.methodLink RL 76 yX6_renew, Cond.instanceMethod yX6_renew, Cond.selects RX6 yX6_renew yX6_renew, Cond.code yX6_renew cX6_renew 3 (some .int), Cond.methodLink RX6 74 yX4_prolongLease, Cond.instanceMethod yX4_prolongLease, Cond.selects RX4 yX4_prolongLease yX4_prolongLease]
def wsL_acts_r13 : List Cond := [Cond.code yX4_prolongLease cX4_prolongLease 3 (some .int), Cond.methodLink RL 79 yX6_giveBack, Cond.instanceMethod yX6_giveBack, Cond.selects RX6 yX6_giveBack yX6_giveBack, Cond.code yX6_giveBack cX6_giveBack 2 (some .int), Cond.methodLink RX6 77 yX4_dropLease, Cond.instanceMethod yX4_dropLease, Cond.selects RX4 yX4_dropLease yX4_dropLease, Cond.code yX4_dropLease cX4_dropLease 2 (some .int), Cond.methodLink RX4 161 yX1_countLeases, Cond.instanceMethod yX1_countLeases, Cond.selects RX1 yX1_countLeases yX1_countLeases, Cond.code yX1_countLeases cX1_countLeases 3 (some .int), Cond.methodLink RX1 46 yX1_hasLease, Cond.methodLink RL 97 yL_leased, Cond.static yL_leased, Cond.code yL_leased cL_leased 13 (some .boolean), Cond.methodLink RL 38 yL_offer, Cond.static yL_offer, Cond.code yL_offer cL_offer 13 (some .int), Cond.methodLink RL 82 yL_leases, Cond.static yL_leases, Cond.code yL_leases cL_leases 4 (some .int), Cond.methodLink RL 100 yL_hour]
def wsL_acts_r14 : List Cond := [Cond.static yL_hour, Cond.code yL_hour cL_hour 10 (some .int), Cond.methodLink RL 104 yX6_pass, Cond.instanceMethod yX6_pass, Cond.selects RX6 yX6_pass yX6_pass, Cond.code yX6_pass cX6_pass 2 (some .int), Cond.methodLink RX6 80 yX4_passHours, Cond.instanceMethod yX4_passHours, Cond.selects RX4 yX4_passHours yX4_passHours, Cond.code yX4_passHours cX4_passHours 4 (some .int), Cond.methodLink RX4 164 yX4_passOneHour, Cond.instanceMethod yX4_passOneHour, Cond.selects RX4 yX4_passOneHour yX4_passOneHour, Cond.code yX4_passOneHour cX4_passOneHour 3 (some .int), Cond.methodLink RX4 167 yX4_endLeases, Cond.instanceMethod yX4_endLeases, Cond.selects RX4 yX4_endLeases yX4_endLeases, Cond.code yX4_endLeases cX4_endLeases 2 none, Cond.methodLink RX4 170 yX4_asksNow, Cond.instanceMethod yX4_asksNow, Cond.selects RX4 yX4_asksNow yX4_asksNow, Cond.code yX4_asksNow cX4_asksNow 2 (some .boolean), Cond.methodLink RX4 173 yX4_hopOrStrike, Cond.instanceMethod yX4_hopOrStrike]
def wsL_acts_r15 : List Cond := [Cond.selects RX4 yX4_hopOrStrike yX4_hopOrStrike, Cond.code yX4_hopOrStrike cX4_hopOrStrike 4 (some .int), Cond.methodLink RX4 177 yX4_cutLeases, Cond.instanceMethod yX4_cutLeases, Cond.selects RX4 yX4_cutLeases yX4_cutLeases, Cond.code yX4_cutLeases cX4_cutLeases 2 none]
def wsL_acts : List Cond := .code yL_acts cL_acts 13 (some .boolean) :: ((wsL_acts_r1 ++ (wsL_acts_r2 ++ (wsL_acts_r3 ++ (wsL_acts_r4 ++ (wsL_acts_r5 ++ (wsL_acts_r6 ++ (wsL_acts_r7 ++ (wsL_acts_r8 ++ (wsL_acts_r9 ++ (wsL_acts_r10 ++ (wsL_acts_r11 ++ (wsL_acts_r12 ++ (wsL_acts_r13 ++ (wsL_acts_r14 ++ wsL_acts_r15)))))))))))))) ++ wsX60 ++ wsX30 ++ wsX40 ++ wsX50 ++ wsX20 ++ wsX10)
def wsL_isSo_r1 : List Cond := [Cond.methodLink RL 26 yL_may, Cond.static yL_may, Cond.initialized RL, Cond.code yL_may cL_may 7 (some .boolean), Cond.methodLink RL 22 yL_allowed, Cond.static yL_allowed, Cond.code yL_allowed cL_allowed 11 (some .boolean), Cond.methodLink RL 9 yL_radius, Cond.static yL_radius, Cond.code yL_radius cL_radius 1 (some .int), Cond.methodLink RL 15 yL_reach, Cond.static yL_reach, Cond.code yL_reach cL_reach 1 (some .int), Cond.methodLink RL 18 yL_near, Cond.static yL_near, Cond.code yL_near cL_near 7 (some .boolean), Cond.methodLink RL 107 yX6_station, Cond.instanceMethod yX6_station, Cond.selects RX6 yX6_station yX6_station, Cond.initialized RX6, Cond.code yX6_station cX6_station 3 (some .int), Cond.fieldLink RX6 10 "VacantAir" "present" "LVacantAir$State;", Cond.fieldLink RX6 132 "VacantAir$State" "stations" "LVacantAir$Stations;", Cond.methodLink RX6 136 yX5_has]
def wsL_isSo_r2 : List Cond := [Cond.instanceMethod yX5_has, Cond.selects RX5 yX5_has yX5_has, Cond.initialized RX5, Cond.code yX5_has cX5_has 2 (some .boolean), Cond.fieldLink RX5 27 "VacantAir$Stations" "count" "I", Cond.methodLink RX6 122 yX6_isOutside, Cond.static yX6_isOutside, Cond.code yX6_isOutside cX6_isOutside 3 (some .boolean), Cond.methodLink RX6 142 yX6_barredAlone, Cond.instanceMethod yX6_barredAlone, Cond.selects RX6 yX6_barredAlone yX6_barredAlone, Cond.code yX6_barredAlone cX6_barredAlone 4 (some .int), Cond.fieldLink RX6 16 "VacantAir" "trial" "LVacantAir$State;", Cond.fieldLink RX6 196 "VacantAir$Stations" "awake" "[I", Cond.fieldLink RX6 157 "VacantAir$State" "devices" "LVacantAir$Devices;", Cond.fieldLink RX6 199 "VacantAir$Devices" "count" "I", Cond.methodLink RX6 126 yX4_copyFrom, Cond.instanceMethod yX4_copyFrom, Cond.selects RX4 yX4_copyFrom yX4_copyFrom, Cond.initialized RX4, Cond.code yX4_copyFrom cX4_copyFrom 2 none, Cond.fieldLink RX4 12 "VacantAir$State" "stations" "LVacantAir$Stations;", Cond.fieldLink RX4 21 "VacantAir$State" "events" "LVacantAir$Events;", Cond.fieldLink RX4 28 "VacantAir$State" "devices" "LVacantAir$Devices;"]
def wsL_isSo_r3 : List Cond := [Cond.fieldLink RX4 32 "VacantAir$State" "settings" "[I", Cond.fieldLink RX4 53 "VacantAir$State" "hour" "I", Cond.fieldLink RX4 57 "VacantAir$State" "reason" "I", Cond.methodLink RX4 39 yX5_copyFrom, Cond.instanceMethod yX5_copyFrom, Cond.selects RX5 yX5_copyFrom yX5_copyFrom, Cond.code yX5_copyFrom cX5_copyFrom 2 none, Cond.fieldLink RX5 9 "VacantAir$Stations" "x" "[I", Cond.fieldLink RX5 15 "VacantAir$Stations" "y" "[I", Cond.fieldLink RX5 18 "VacantAir$Stations" "channel" "[I", Cond.fieldLink RX5 21 "VacantAir$Stations" "powerClass" "[I", Cond.fieldLink RX5 24 "VacantAir$Stations" "awake" "[I", Cond.static yX6_copyRow, Cond.code yX6_copyRow cX6_copyRow 2 none, Cond.methodLink RX6 221 Lib.Math.min.name, Cond.static Lib.Math.min.name, Cond.initialized "java/lang/Math", Cond.code Lib.Math.min.name Lib.Math.min.code 2 (some .int), Cond.methodLink RX6 226 arraycopyName, Cond.native arraycopyName, Cond.static arraycopyName, Cond.initialized "java/lang/System", Cond.methodLink RX4 43 yX2_copyFrom, Cond.instanceMethod yX2_copyFrom]
def wsL_isSo_r4 : List Cond := [Cond.selects RX2 yX2_copyFrom yX2_copyFrom, Cond.initialized RX2, Cond.code yX2_copyFrom cX2_copyFrom 2 none, Cond.fieldLink RX2 9 "VacantAir$Events" "x" "[I", Cond.fieldLink RX2 15 "VacantAir$Events" "y" "[I", Cond.fieldLink RX2 18 "VacantAir$Events" "radius" "[I", Cond.fieldLink RX2 21 "VacantAir$Events" "channel" "[I", Cond.fieldLink RX2 24 "VacantAir$Events" "from" "[I", Cond.fieldLink RX2 27 "VacantAir$Events" "to" "[I", Cond.fieldLink RX2 30 "VacantAir$Events" "cancelled" "[I", Cond.fieldLink RX2 33 "VacantAir$Events" "count" "I", Cond.methodLink RX4 46 yX1_copyFrom, Cond.instanceMethod yX1_copyFrom, Cond.selects RX1 yX1_copyFrom yX1_copyFrom, Cond.initialized RX1, Cond.code yX1_copyFrom cX1_copyFrom 2 none, Cond.fieldLink RX1 9 "VacantAir$Devices" "x" "[I", Cond.fieldLink RX1 15 "VacantAir$Devices" "y" "[I", Cond.fieldLink RX1 18 "VacantAir$Devices" "greatest" "[I", Cond.fieldLink RX1 21 "VacantAir$Devices" "channel" "[I", Cond.fieldLink RX1 24 "VacantAir$Devices" "power" "[I", Cond.fieldLink RX1 27 "VacantAir$Devices" "end" "[I", Cond.fieldLink RX1 30 "VacantAir$Devices" "notice" "[I", Cond.fieldLink RX1 33 "VacantAir$Devices" "hops" "[I"]
def wsL_isSo_r5 : List Cond := [Cond.fieldLink RX1 36 "VacantAir$Devices" "struck" "[I", Cond.fieldLink RX1 39 "VacantAir$Devices" "cut" "[I", Cond.fieldLink RX1 42 "VacantAir$Devices" "count" "I", Cond.methodLink RX6 206 yX1_hasLease, Cond.instanceMethod yX1_hasLease, Cond.selects RX1 yX1_hasLease yX1_hasLease, Cond.code yX1_hasLease cX1_hasLease 2 (some .boolean), Cond.methodLink RX6 218 yX4_leaseIsAllowed, Cond.instanceMethod yX4_leaseIsAllowed, Cond.selects RX4 yX4_leaseIsAllowed yX4_leaseIsAllowed, Cond.code yX4_leaseIsAllowed cX4_leaseIsAllowed 2 (some .boolean), Cond.fieldLink RX4 154 "VacantAir$Devices" "channel" "[I", Cond.fieldLink RX4 186 "VacantAir$Devices" "power" "[I", Cond.fieldLink RX4 106 "VacantAir$Devices" "x" "[I", Cond.fieldLink RX4 107 "VacantAir$Devices" "y" "[I", Cond.methodLink RX4 192 yX4_isAllowed, Cond.instanceMethod yX4_isAllowed, Cond.selects RX4 yX4_isAllowed yX4_isAllowed, Cond.code yX4_isAllowed cX4_isAllowed 7 (some .boolean), Cond.fieldLink RX4 68 "VacantAir$Stations" "count" "I", Cond.fieldLink RX4 71 "VacantAir$Stations" "x" "[I", Cond.fieldLink RX4 74 "VacantAir$Stations" "y" "[I", Cond.fieldLink RX4 86 "VacantAir$Events" "count" "I", Cond.fieldLink RX4 92 "VacantAir$Events" "channel" "[I"]
def wsL_isSo_r6 : List Cond := [Cond.fieldLink RX4 87 "VacantAir$Events" "x" "[I", Cond.fieldLink RX4 88 "VacantAir$Events" "y" "[I", Cond.fieldLink RX4 89 "VacantAir$Events" "radius" "[I", Cond.methodLink RX4 208 yX4_barredRadius, Cond.instanceMethod yX4_barredRadius, Cond.selects RX4 yX4_barredRadius yX4_barredRadius, Cond.code yX4_barredRadius cX4_barredRadius 5 (some .int), Cond.fieldLink RX4 83 "VacantAir$Stations" "awake" "[I", Cond.fieldLink RX4 80 "VacantAir$Stations" "powerClass" "[I", Cond.fieldLink RX4 77 "VacantAir$Stations" "channel" "[I", Cond.static yX6_isWithin, Cond.code yX6_isWithin cX6_isWithin 3 (some .boolean), Cond.methodLink RX4 211 yX2_isOn, Cond.instanceMethod yX2_isOn, Cond.selects RX2 yX2_isOn yX2_isOn, Cond.code yX2_isOn cX2_isOn 3 (some .boolean), Cond.methodLink RX6 145 yX5_tell, Cond.instanceMethod yX5_tell, Cond.selects RX5 yX5_tell yX5_tell, Cond.code yX5_tell cX5_tell 3 (some .int), Cond.methodLink RL 110 yX6_event, Cond.instanceMethod yX6_event, Cond.selects RX6 yX6_event yX6_event, Cond.code yX6_event cX6_event 3 (some .int)]
def wsL_isSo_r7 : List Cond := [Cond.fieldLink RX6 148 "VacantAir$State" "events" "LVacantAir$Events;", Cond.fieldLink RX6 129 "VacantAir$State" "hour" "I", Cond.methodLink RX6 152 yX2_has, Cond.instanceMethod yX2_has, Cond.selects RX2 yX2_has yX2_has, Cond.code yX2_has cX2_has 2 (some .boolean), Cond.methodLink RX6 155 yX2_tell, Cond.instanceMethod yX2_tell, Cond.selects RX2 yX2_tell yX2_tell, Cond.code yX2_tell cX2_tell 4 (some .int), Cond.methodLink RX2 37 yX2_isOn, Cond.methodLink RL 113 yX6_device, Cond.instanceMethod yX6_device, Cond.selects RX6 yX6_device yX6_device, Cond.code yX6_device cX6_device 3 (some .int), Cond.methodLink RX6 161 yX1_has, Cond.instanceMethod yX1_has, Cond.selects RX1 yX1_has yX1_has, Cond.code yX1_has cX1_has 2 (some .boolean), Cond.methodLink RX6 164 yX4_nextAsking, Cond.instanceMethod yX4_nextAsking, Cond.selects RX4 yX4_nextAsking yX4_nextAsking, Cond.code yX4_nextAsking cX4_nextAsking 2 (some .int), Cond.methodLink RX6 167 yX1_tell]
def wsL_isSo_r8 : List Cond := [Cond.instanceMethod yX1_tell, Cond.selects RX1 yX1_tell yX1_tell, Cond.code yX1_tell cX1_tell 3 (some .int), Cond.methodLink RX1 46 yX1_hasLease, Cond.methodLink RX1 50 yX1_hasNotice, Cond.instanceMethod yX1_hasNotice, Cond.selects RX1 yX1_hasNotice yX1_hasNotice, Cond.code yX1_hasNotice cX1_hasNotice 2 (some .boolean), Cond.methodLink RL 116 yX6_leases, Cond.instanceMethod yX6_leases, Cond.selects RX6 yX6_leases yX6_leases, Cond.code yX6_leases cX6_leases 2 (some .int), Cond.methodLink RX6 182 yX1_countOn, Cond.instanceMethod yX1_countOn, Cond.selects RX1 yX1_countOn yX1_countOn, Cond.code yX1_countOn cX1_countOn 4 (some .int), Cond.methodLink RL 82 yL_leases, Cond.static yL_leases, Cond.code yL_leases cL_leases 4 (some .int), Cond.methodLink RL 118 yX6_total, Cond.instanceMethod yX6_total, Cond.selects RX6 yX6_total yX6_total, Cond.code yX6_total cX6_total 2 (some .int), Cond.fieldLink RX6 22 "VacantAir" "history" "LVacantAir$History;"]
def wsL_isSo_r9 : List Cond := [Cond.fieldLink RX6 116 "VacantAir$History" "count" "I", Cond.fieldLink RX6 37 "VacantAir" "text" "LVacantAir$ActText;", Cond.fieldLink RX6 185 "VacantAir$ActText" "length" "I", Cond.methodLink RX6 188 yX4_tellTotal, Cond.instanceMethod yX4_tellTotal, Cond.selects RX4 yX4_tellTotal yX4_tellTotal, Cond.code yX4_tellTotal cX4_tellTotal 2 (some .int), Cond.fieldLink RX4 105 "VacantAir$Devices" "count" "I", Cond.fieldLink RX4 111 "VacantAir$Devices" "hops" "[I", Cond.fieldLink RX4 114 "VacantAir$Devices" "struck" "[I", Cond.fieldLink RX4 117 "VacantAir$Devices" "cut" "[I", Cond.methodLink RX4 217 yX5_countAwake, Cond.instanceMethod yX5_countAwake, Cond.selects RX5 yX5_countAwake yX5_countAwake, Cond.code yX5_countAwake cX5_countAwake 3 (some .int), Cond.methodLink RX4 161 yX1_countLeases, Cond.instanceMethod yX1_countLeases, Cond.selects RX1 yX1_countLeases yX1_countLeases, Cond.code yX1_countLeases cX1_countLeases 3 (some .int), Cond.methodLink RX4 134 yX1_countNotices, Cond.instanceMethod yX1_countNotices, Cond.selects RX1 yX1_countNotices yX1_countNotices, Cond.code yX1_countNotices cX1_countNotices 3 (some .int), Cond.methodLink RX4 220 yX1_sumOf]
def wsL_isSo_r10 : List Cond := [Cond.instanceMethod yX1_sumOf, Cond.selects RX1 yX1_sumOf yX1_sumOf, Cond.code yX1_sumOf cX1_sumOf 4 (some .int), Cond.methodLink RL 62 yL_notices, Cond.static yL_notices, Cond.code yL_notices cL_notices 4 (some .int)]
def wsL_isSo : List Cond := .code yL_isSo cL_isSo 16 (some .boolean) :: ((wsL_isSo_r1 ++ (wsL_isSo_r2 ++ (wsL_isSo_r3 ++ (wsL_isSo_r4 ++ (wsL_isSo_r5 ++ (wsL_isSo_r6 ++ (wsL_isSo_r7 ++ (wsL_isSo_r8 ++ (wsL_isSo_r9 ++ wsL_isSo_r10))))))))) ++ wsX60 ++ wsX40 ++ wsX50 ++ wsX10 ++ wsX20 ++ wsX30 ++ wsX00)
def wsL_law_r1 : List Cond := [Cond.classLink RL 43 RX6, Cond.instantiable RX6 6, Cond.initialized RX6, Cond.arrayClass .int, Cond.constant RL 8 (2147483647), Cond.methodLink RL 121 yX6_init, Cond.instanceMethod yX6_init, Cond.code yX6_init cX6_init 2 none, Cond.methodLink RX6 1 objectInit, Cond.instanceMethod objectInit, Cond.code objectInit ⟨#[0xb1]⟩ 1 none, Cond.classLink RX6 7 RX4, Cond.instantiable RX4 6, Cond.initialized RX4, Cond.fieldLink RX6 10 "VacantAir" "present" "LVacantAir$State;", Cond.fieldLink RX6 16 "VacantAir" "trial" "LVacantAir$State;", Cond.classLink RX6 19 RX3, Cond.instantiable RX3 3, Cond.initialized RX3, Cond.fieldLink RX6 22 "VacantAir" "history" "LVacantAir$History;", Cond.fieldLink RX6 26 "VacantAir" "slots" "[LVacantAir$State;", Cond.arrayClass .boolean, Cond.fieldLink RX6 30 "VacantAir" "slotHolds" "[Z", Cond.classLink RX6 34 RX0]
def wsL_law_r2 : List Cond := [Cond.instantiable RX0 8, Cond.initialized RX0, Cond.fieldLink RX6 37 "VacantAir" "text" "LVacantAir$ActText;", Cond.methodLink RX6 9 yX4_init, Cond.instanceMethod yX4_init, Cond.code yX4_init cX4_init 2 none, Cond.methodLink RX4 3 objectInit, Cond.classLink RX4 9 RX5, Cond.instantiable RX5 6, Cond.initialized RX5, Cond.fieldLink RX4 12 "VacantAir$State" "stations" "LVacantAir$Stations;", Cond.classLink RX4 18 RX2, Cond.instantiable RX2 8, Cond.initialized RX2, Cond.fieldLink RX4 21 "VacantAir$State" "events" "LVacantAir$Events;", Cond.classLink RX4 25 RX1, Cond.instantiable RX1 11, Cond.initialized RX1, Cond.fieldLink RX4 28 "VacantAir$State" "devices" "LVacantAir$Devices;", Cond.fieldLink RX4 32 "VacantAir$State" "settings" "[I", Cond.instanceMethod yX5_init, Cond.code yX5_init cX5_init 1 none, Cond.methodLink RX5 3 objectInit, Cond.fieldLink RX5 9 "VacantAir$Stations" "x" "[I"]
def wsL_law_r3 : List Cond := [Cond.fieldLink RX5 15 "VacantAir$Stations" "y" "[I", Cond.fieldLink RX5 18 "VacantAir$Stations" "channel" "[I", Cond.fieldLink RX5 21 "VacantAir$Stations" "powerClass" "[I", Cond.fieldLink RX5 24 "VacantAir$Stations" "awake" "[I", Cond.instanceMethod yX2_init, Cond.code yX2_init cX2_init 1 none, Cond.methodLink RX2 3 objectInit, Cond.fieldLink RX2 9 "VacantAir$Events" "x" "[I", Cond.fieldLink RX2 15 "VacantAir$Events" "y" "[I", Cond.fieldLink RX2 18 "VacantAir$Events" "radius" "[I", Cond.fieldLink RX2 21 "VacantAir$Events" "channel" "[I", Cond.fieldLink RX2 24 "VacantAir$Events" "from" "[I", Cond.fieldLink RX2 27 "VacantAir$Events" "to" "[I", Cond.fieldLink RX2 30 "VacantAir$Events" "cancelled" "[I", Cond.instanceMethod yX1_init, Cond.code yX1_init cX1_init 1 none, Cond.methodLink RX1 3 objectInit, Cond.fieldLink RX1 9 "VacantAir$Devices" "x" "[I", Cond.fieldLink RX1 15 "VacantAir$Devices" "y" "[I", Cond.fieldLink RX1 18 "VacantAir$Devices" "greatest" "[I", Cond.fieldLink RX1 21 "VacantAir$Devices" "channel" "[I", Cond.fieldLink RX1 24 "VacantAir$Devices" "power" "[I", Cond.fieldLink RX1 27 "VacantAir$Devices" "end" "[I", Cond.fieldLink RX1 30 "VacantAir$Devices" "notice" "[I"]
def wsL_law_r4 : List Cond := [Cond.fieldLink RX1 33 "VacantAir$Devices" "hops" "[I", Cond.fieldLink RX1 36 "VacantAir$Devices" "struck" "[I", Cond.fieldLink RX1 39 "VacantAir$Devices" "cut" "[I", Cond.methodLink RX6 21 yX3_init, Cond.instanceMethod yX3_init, Cond.code yX3_init cX3_init 2 none, Cond.methodLink RX3 3 objectInit, Cond.classLink RX3 9 RX4, Cond.fieldLink RX3 11 "VacantAir$History" "ring" "[LVacantAir$State;", Cond.methodLink RX3 17 yX4_init, Cond.instanceMethod yX0_init, Cond.code yX0_init cX0_init 1 none, Cond.methodLink RX0 3 objectInit, Cond.fieldLink RX0 9 "VacantAir$ActText" "bytes" "[I", Cond.fieldLink RX0 15 "VacantAir$ActText" "fault" "I", Cond.methodLink RL 122 yL_isSo, Cond.static yL_isSo, Cond.initialized RL, Cond.code yL_isSo cL_isSo 16 (some .boolean), Cond.methodLink RL 26 yL_may, Cond.static yL_may, Cond.code yL_may cL_may 7 (some .boolean), Cond.methodLink RL 22 yL_allowed, Cond.static yL_allowed]
def wsL_law_r5 : List Cond := [Cond.code yL_allowed cL_allowed 11 (some .boolean), Cond.methodLink RL 9 yL_radius, Cond.static yL_radius, Cond.code yL_radius cL_radius 1 (some .int), Cond.methodLink RL 15 yL_reach, Cond.static yL_reach, Cond.code yL_reach cL_reach 1 (some .int), Cond.methodLink RL 18 yL_near, Cond.static yL_near, Cond.code yL_near cL_near 7 (some .boolean), Cond.methodLink RL 107 yX6_station, Cond.instanceMethod yX6_station, Cond.selects RX6 yX6_station yX6_station, Cond.code yX6_station cX6_station 3 (some .int), Cond.fieldLink RX6 132 "VacantAir$State" "stations" "LVacantAir$Stations;", Cond.methodLink RX6 136 yX5_has, Cond.instanceMethod yX5_has, Cond.selects RX5 yX5_has yX5_has, Cond.code yX5_has cX5_has 2 (some .boolean), Cond.fieldLink RX5 27 "VacantAir$Stations" "count" "I", Cond.methodLink RX6 122 yX6_isOutside, Cond.static yX6_isOutside, Cond.code yX6_isOutside cX6_isOutside 3 (some .boolean), Cond.methodLink RX6 142 yX6_barredAlone]
def wsL_law_r6 : List Cond := [Cond.instanceMethod yX6_barredAlone, Cond.selects RX6 yX6_barredAlone yX6_barredAlone, Cond.code yX6_barredAlone cX6_barredAlone 4 (some .int), Cond.fieldLink RX6 196 "VacantAir$Stations" "awake" "[I", Cond.fieldLink RX6 157 "VacantAir$State" "devices" "LVacantAir$Devices;", Cond.fieldLink RX6 199 "VacantAir$Devices" "count" "I", Cond.methodLink RX6 126 yX4_copyFrom, Cond.instanceMethod yX4_copyFrom, Cond.selects RX4 yX4_copyFrom yX4_copyFrom, Cond.code yX4_copyFrom cX4_copyFrom 2 none, Cond.fieldLink RX4 53 "VacantAir$State" "hour" "I", Cond.fieldLink RX4 57 "VacantAir$State" "reason" "I", Cond.methodLink RX4 39 yX5_copyFrom, Cond.instanceMethod yX5_copyFrom, Cond.selects RX5 yX5_copyFrom yX5_copyFrom, Cond.code yX5_copyFrom cX5_copyFrom 2 none, Cond.static yX6_copyRow, Cond.code yX6_copyRow cX6_copyRow 2 none, Cond.methodLink RX6 221 Lib.Math.min.name, Cond.static Lib.Math.min.name, Cond.initialized "java/lang/Math", Cond.code Lib.Math.min.name Lib.Math.min.code 2 (some .int), Cond.methodLink RX6 226 arraycopyName, Cond.native arraycopyName]
def wsL_law_r7 : List Cond := [Cond.static arraycopyName, Cond.initialized "java/lang/System", Cond.methodLink RX4 43 yX2_copyFrom, Cond.instanceMethod yX2_copyFrom, Cond.selects RX2 yX2_copyFrom yX2_copyFrom, Cond.code yX2_copyFrom cX2_copyFrom 2 none, Cond.fieldLink RX2 33 "VacantAir$Events" "count" "I", Cond.methodLink RX4 46 yX1_copyFrom, Cond.instanceMethod yX1_copyFrom, Cond.selects RX1 yX1_copyFrom yX1_copyFrom, Cond.code yX1_copyFrom cX1_copyFrom 2 none, Cond.fieldLink RX1 42 "VacantAir$Devices" "count" "I", Cond.methodLink RX6 206 yX1_hasLease, Cond.instanceMethod yX1_hasLease, Cond.selects RX1 yX1_hasLease yX1_hasLease, Cond.code yX1_hasLease cX1_hasLease 2 (some .boolean), Cond.methodLink RX6 218 yX4_leaseIsAllowed, Cond.instanceMethod yX4_leaseIsAllowed, Cond.selects RX4 yX4_leaseIsAllowed yX4_leaseIsAllowed, Cond.code yX4_leaseIsAllowed cX4_leaseIsAllowed 2 (some .boolean), Cond.fieldLink RX4 154 "VacantAir$Devices" "channel" "[I", Cond.fieldLink RX4 186 "VacantAir$Devices" "power" "[I", Cond.fieldLink RX4 106 "VacantAir$Devices" "x" "[I", Cond.fieldLink RX4 107 "VacantAir$Devices" "y" "[I"]
def wsL_law_r8 : List Cond := [Cond.methodLink RX4 192 yX4_isAllowed, Cond.instanceMethod yX4_isAllowed, Cond.selects RX4 yX4_isAllowed yX4_isAllowed, Cond.code yX4_isAllowed cX4_isAllowed 7 (some .boolean), Cond.fieldLink RX4 68 "VacantAir$Stations" "count" "I", Cond.fieldLink RX4 71 "VacantAir$Stations" "x" "[I", Cond.fieldLink RX4 74 "VacantAir$Stations" "y" "[I", Cond.fieldLink RX4 86 "VacantAir$Events" "count" "I", Cond.fieldLink RX4 92 "VacantAir$Events" "channel" "[I", Cond.fieldLink RX4 87 "VacantAir$Events" "x" "[I", Cond.fieldLink RX4 88 "VacantAir$Events" "y" "[I", Cond.fieldLink RX4 89 "VacantAir$Events" "radius" "[I", Cond.methodLink RX4 208 yX4_barredRadius, Cond.instanceMethod yX4_barredRadius, Cond.selects RX4 yX4_barredRadius yX4_barredRadius, Cond.code yX4_barredRadius cX4_barredRadius 5 (some .int), Cond.fieldLink RX4 83 "VacantAir$Stations" "awake" "[I", Cond.fieldLink RX4 80 "VacantAir$Stations" "powerClass" "[I", Cond.fieldLink RX4 77 "VacantAir$Stations" "channel" "[I", Cond.static yX6_isWithin, Cond.code yX6_isWithin cX6_isWithin 3 (some .boolean), Cond.methodLink RX4 211 yX2_isOn, Cond.instanceMethod yX2_isOn, Cond.selects RX2 yX2_isOn yX2_isOn]
def wsL_law_r9 : List Cond := [Cond.code yX2_isOn cX2_isOn 3 (some .boolean), Cond.methodLink RX6 145 yX5_tell, Cond.instanceMethod yX5_tell, Cond.selects RX5 yX5_tell yX5_tell, Cond.code yX5_tell cX5_tell 3 (some .int), Cond.methodLink RL 110 yX6_event, Cond.instanceMethod yX6_event, Cond.selects RX6 yX6_event yX6_event, Cond.code yX6_event cX6_event 3 (some .int), Cond.fieldLink RX6 148 "VacantAir$State" "events" "LVacantAir$Events;", Cond.fieldLink RX6 129 "VacantAir$State" "hour" "I", Cond.methodLink RX6 152 yX2_has, Cond.instanceMethod yX2_has, Cond.selects RX2 yX2_has yX2_has, Cond.code yX2_has cX2_has 2 (some .boolean), Cond.methodLink RX6 155 yX2_tell, Cond.instanceMethod yX2_tell, Cond.selects RX2 yX2_tell yX2_tell, Cond.code yX2_tell cX2_tell 4 (some .int), Cond.methodLink RX2 37 yX2_isOn, Cond.methodLink RL 113 yX6_device, Cond.instanceMethod yX6_device, Cond.selects RX6 yX6_device yX6_device, Cond.code yX6_device cX6_device 3 (some .int)]
def wsL_law_r10 : List Cond := [Cond.methodLink RX6 161 yX1_has, Cond.instanceMethod yX1_has, Cond.selects RX1 yX1_has yX1_has, Cond.code yX1_has cX1_has 2 (some .boolean), Cond.methodLink RX6 164 yX4_nextAsking, Cond.instanceMethod yX4_nextAsking, Cond.selects RX4 yX4_nextAsking yX4_nextAsking, Cond.code yX4_nextAsking cX4_nextAsking 2 (some .int), Cond.methodLink RX6 167 yX1_tell, Cond.instanceMethod yX1_tell, Cond.selects RX1 yX1_tell yX1_tell, Cond.code yX1_tell cX1_tell 3 (some .int), Cond.methodLink RX1 46 yX1_hasLease, Cond.methodLink RX1 50 yX1_hasNotice, Cond.instanceMethod yX1_hasNotice, Cond.selects RX1 yX1_hasNotice yX1_hasNotice, Cond.code yX1_hasNotice cX1_hasNotice 2 (some .boolean), Cond.methodLink RL 116 yX6_leases, Cond.instanceMethod yX6_leases, Cond.selects RX6 yX6_leases yX6_leases, Cond.code yX6_leases cX6_leases 2 (some .int), Cond.methodLink RX6 182 yX1_countOn, Cond.instanceMethod yX1_countOn, Cond.selects RX1 yX1_countOn yX1_countOn]
def wsL_law_r11 : List Cond := [Cond.code yX1_countOn cX1_countOn 4 (some .int), Cond.methodLink RL 82 yL_leases, Cond.static yL_leases, Cond.code yL_leases cL_leases 4 (some .int), Cond.methodLink RL 118 yX6_total, Cond.instanceMethod yX6_total, Cond.selects RX6 yX6_total yX6_total, Cond.code yX6_total cX6_total 2 (some .int), Cond.fieldLink RX6 116 "VacantAir$History" "count" "I", Cond.fieldLink RX6 185 "VacantAir$ActText" "length" "I", Cond.methodLink RX6 188 yX4_tellTotal, Cond.instanceMethod yX4_tellTotal, Cond.selects RX4 yX4_tellTotal yX4_tellTotal, Cond.code yX4_tellTotal cX4_tellTotal 2 (some .int), Cond.fieldLink RX4 105 "VacantAir$Devices" "count" "I", Cond.fieldLink RX4 111 "VacantAir$Devices" "hops" "[I", Cond.fieldLink RX4 114 "VacantAir$Devices" "struck" "[I", Cond.fieldLink RX4 117 "VacantAir$Devices" "cut" "[I", Cond.methodLink RX4 217 yX5_countAwake, Cond.instanceMethod yX5_countAwake, Cond.selects RX5 yX5_countAwake yX5_countAwake, Cond.code yX5_countAwake cX5_countAwake 3 (some .int), Cond.methodLink RX4 161 yX1_countLeases, Cond.instanceMethod yX1_countLeases]
def wsL_law_r12 : List Cond := [Cond.selects RX1 yX1_countLeases yX1_countLeases, Cond.code yX1_countLeases cX1_countLeases 3 (some .int), Cond.methodLink RX4 134 yX1_countNotices, Cond.instanceMethod yX1_countNotices, Cond.selects RX1 yX1_countNotices yX1_countNotices, Cond.code yX1_countNotices cX1_countNotices 3 (some .int), Cond.methodLink RX4 220 yX1_sumOf, Cond.instanceMethod yX1_sumOf, Cond.selects RX1 yX1_sumOf yX1_sumOf, Cond.code yX1_sumOf cX1_sumOf 4 (some .int), Cond.methodLink RL 62 yL_notices, Cond.static yL_notices, Cond.code yL_notices cL_notices 4 (some .int), Cond.methodLink RL 126 yL_cell, Cond.static yL_cell, Cond.code yL_cell cL_cell 2 (some .int), Cond.constant RL 7 (40503), Cond.methodLink RL 130 yL_acts, Cond.static yL_acts, Cond.code yL_acts cL_acts 13 (some .boolean), Cond.constant RL 85 (10000000), Cond.methodLink RL 86 yL_low, Cond.static yL_low, Cond.code yL_low cL_low 2 (some .int)]
def wsL_law_r13 : List Cond := [Cond.methodLink RL 89 yL_adds, Cond.static yL_adds, Cond.code yL_adds cL_adds 15 (some .boolean), Cond.methodLink RL 42 yX6_addStation, Cond.instanceMethod yX6_addStation, Cond.selects RX6 yX6_addStation yX6_addStation, Cond.code yX6_addStation cX6_addStation 5 (some .int), Cond.methodLink RX6 41 yX3_note, Cond.instanceMethod yX3_note, Cond.selects RX3 yX3_note yX3_note, Cond.code yX3_note cX3_note 2 none, Cond.fieldLink RX3 18 "VacantAir$History" "oldest" "I", Cond.fieldLink RX3 22 "VacantAir$History" "count" "I", Cond.methodLink RX3 25 yX4_copyFrom, Cond.methodLink RX6 45 yX4_putStation, Cond.instanceMethod yX4_putStation, Cond.selects RX4 yX4_putStation yX4_putStation, Cond.code yX4_putStation cX4_putStation 6 (some .int), Cond.static yX6_isNoPlace, Cond.code yX6_isNoPlace cX6_isNoPlace 2 (some .boolean), Cond.methodLink RX6 49 yX6_recorded, Cond.instanceMethod yX6_recorded, Cond.selects RX6 yX6_recorded yX6_recorded, Cond.code yX6_recorded cX6_recorded 2 (some .int)]
def wsL_law_r14 : List Cond := [Cond.methodLink RX6 215 yX3_keepNoted, Cond.instanceMethod yX3_keepNoted, Cond.selects RX3 yX3_keepNoted yX3_keepNoted, Cond.code yX3_keepNoted cX3_keepNoted 1 none, Cond.methodLink RL 48 yX6_addEvent, Cond.instanceMethod yX6_addEvent, Cond.selects RX6 yX6_addEvent yX6_addEvent, Cond.code yX6_addEvent cX6_addEvent 7 (some .int), Cond.methodLink RX6 53 yX4_putEvent, Cond.instanceMethod yX4_putEvent, Cond.selects RX4 yX4_putEvent yX4_putEvent, Cond.code yX4_putEvent cX4_putEvent 8 (some .int), Cond.fieldLink RX4 93 "VacantAir$Events" "from" "[I", Cond.fieldLink RX4 96 "VacantAir$Events" "to" "[I", Cond.fieldLink RX4 99 "VacantAir$Events" "cancelled" "[I", Cond.methodLink RX4 102 yX4_review, Cond.instanceMethod yX4_review, Cond.selects RX4 yX4_review yX4_review, Cond.code yX4_review cX4_review 2 none, Cond.fieldLink RX4 183 "VacantAir$Devices" "notice" "[I", Cond.methodLink RX4 155 yX1_hasLease, Cond.methodLink RX4 180 yX4_leaseIsAllowed, Cond.methodLink RX4 158 yX1_hasNotice, Cond.methodLink RL 34 yL_review]
def wsL_law_r15 : List Cond := [Cond.static yL_review, Cond.code yL_review cL_review 7 none, Cond.methodLink RL 52 yX6_addDevice, Cond.instanceMethod yX6_addDevice, Cond.selects RX6 yX6_addDevice yX6_addDevice, Cond.code yX6_addDevice cX6_addDevice 4 (some .int), Cond.methodLink RX6 57 yX4_putDevice, Cond.instanceMethod yX4_putDevice, Cond.selects RX4 yX4_putDevice yX4_putDevice, Cond.code yX4_putDevice cX4_putDevice 5 (some .int), Cond.fieldLink RX4 108 "VacantAir$Devices" "greatest" "[I", Cond.methodLink RX4 120 yX1_removeLease, Cond.instanceMethod yX1_removeLease, Cond.selects RX1 yX1_removeLease yX1_removeLease, Cond.code yX1_removeLease cX1_removeLease 2 none, Cond.methodLink RL 30 yL_ends, Cond.static yL_ends, Cond.code yL_ends cL_ends 4 none, Cond.methodLink RL 93 yL_turns, Cond.static yL_turns, Cond.code yL_turns cL_turns 10 (some .boolean), Cond.methodLink RL 56 yX6_wake, Cond.instanceMethod yX6_wake, Cond.selects RX6 yX6_wake yX6_wake]
def wsL_law_r16 : List Cond := [Cond.code yX6_wake cX6_wake 2 (some .int), Cond.methodLink RX6 65 yX4_turnStation, Cond.instanceMethod yX4_turnStation, Cond.selects RX4 yX4_turnStation yX4_turnStation, Cond.code yX4_turnStation cX4_turnStation 3 (some .int), Cond.methodLink RX4 130 yX5_has, Cond.methodLink RL 59 yX6_sleep, Cond.instanceMethod yX6_sleep, Cond.selects RX6 yX6_sleep yX6_sleep, Cond.code yX6_sleep cX6_sleep 2 (some .int), Cond.methodLink RL 66 yX6_cancel, Cond.instanceMethod yX6_cancel, Cond.selects RX6 yX6_cancel yX6_cancel, Cond.code yX6_cancel cX6_cancel 2 (some .int), Cond.methodLink RX6 68 yX4_callOff, Cond.instanceMethod yX4_callOff, Cond.selects RX4 yX4_callOff yX4_callOff, Cond.code yX4_callOff cX4_callOff 2 (some .int), Cond.methodLink RX4 138 yX2_has, Cond.methodLink RL 69 yX6_set, Cond.instanceMethod yX6_set, Cond.selects RX6 yX6_set yX6_set, Cond.code yX6_set cX6_set 3 (some .int), Cond.methodLink RX6 61 yX4_change]
def wsL_law_r17 : List Cond := [Cond.instanceMethod yX4_change, Cond.selects RX4 yX4_change yX4_change, Cond.code yX4_change cX4_change 4 (some .int), Cond.methodLink RL 73 yX6_lease, Cond.instanceMethod yX6_lease, Cond.selects RX6 yX6_lease yX6_lease, Cond.code yX6_lease cX6_lease 4 (some .int), Cond.methodLink RX6 71 yX4_makeLease, Cond.instanceMethod yX4_makeLease, Cond.selects RX4 yX4_makeLease yX4_makeLease, Cond.code yX4_makeLease cX4_makeLease 4 (some .int), Cond.fieldLink RX4 151 "VacantAir$Devices" "end" "[I", Cond.methodLink RX4 139 yX1_has, Cond.methodLink RX4 140 yX4_refusal, Cond.instanceMethod yX4_refusal, Cond.selects RX4 yX4_refusal yX4_refusal, Cond.code yX4_refusal cX4_refusal 3 (some .int), Cond.methodLink RX4 189 yX4_isAllowedOnAny, Cond.instanceMethod yX4_isAllowedOnAny, Cond.selects RX4 yX4_isAllowedOnAny yX4_isAllowedOnAny, Cond.code yX4_isAllowedOnAny cX4_isAllowedOnAny 4 (some .boolean), Cond.methodLink RX4 144 yX4_findOffer, Cond.instanceMethod yX4_findOffer, Cond.selects RX4 yX4_findOffer yX4_findOffer]
def wsL_law_r18 : List Cond := [Cond.code yX4_findOffer cX4_findOffer 7 (some .int), Cond.methodLink RX4 196 yX4_isFree, Cond.instanceMethod yX4_isFree, Cond.selects RX4 yX4_isFree yX4_isFree, Cond.code yX4_isFree cX4_isFree 5 (some .boolean), Cond.methodLink RX4 199 yX1_countOn, Cond.methodLink RX4 147 yX1_putOn, Cond.instanceMethod yX1_putOn, Cond.selects RX1 yX1_putOn yX1_putOn, Cond.code yX1_putOn cX1_putOn 4 none, Cond.methodLink RL 76 yX6_renew, Cond.instanceMethod yX6_renew, Cond.selects RX6 yX6_renew yX6_renew, Cond.code yX6_renew cX6_renew 3 (some .int), Cond.methodLink RX6 74 yX4_prolongLease, Cond.instanceMethod yX4_prolongLease, Cond.selects RX4 yX4_prolongLease yX4_prolongLease, Cond.code yX4_prolongLease cX4_prolongLease 3 (some .int), Cond.methodLink RL 79 yX6_giveBack, Cond.instanceMethod yX6_giveBack, Cond.selects RX6 yX6_giveBack yX6_giveBack, Cond.code yX6_giveBack cX6_giveBack 2 (some .int), Cond.methodLink RX6 77 yX4_dropLease, Cond.instanceMethod yX4_dropLease]
def wsL_law_r19 : List Cond := [Cond.selects RX4 yX4_dropLease yX4_dropLease, Cond.code yX4_dropLease cX4_dropLease 2 (some .int), Cond.methodLink RL 97 yL_leased, Cond.static yL_leased, Cond.code yL_leased cL_leased 13 (some .boolean), Cond.methodLink RL 38 yL_offer, Cond.static yL_offer, Cond.code yL_offer cL_offer 13 (some .int), Cond.methodLink RL 100 yL_hour, Cond.static yL_hour, Cond.code yL_hour cL_hour 10 (some .int), Cond.methodLink RL 104 yX6_pass, Cond.instanceMethod yX6_pass, Cond.selects RX6 yX6_pass yX6_pass, Cond.code yX6_pass cX6_pass 2 (some .int), Cond.methodLink RX6 80 yX4_passHours, Cond.instanceMethod yX4_passHours, Cond.selects RX4 yX4_passHours yX4_passHours, Cond.code yX4_passHours cX4_passHours 4 (some .int), Cond.methodLink RX4 164 yX4_passOneHour, Cond.instanceMethod yX4_passOneHour, Cond.selects RX4 yX4_passOneHour yX4_passOneHour, Cond.code yX4_passOneHour cX4_passOneHour 3 (some .int), Cond.methodLink RX4 167 yX4_endLeases]
def wsL_law_r20 : List Cond := [Cond.instanceMethod yX4_endLeases, Cond.selects RX4 yX4_endLeases yX4_endLeases, Cond.code yX4_endLeases cX4_endLeases 2 none, Cond.methodLink RX4 170 yX4_asksNow, Cond.instanceMethod yX4_asksNow, Cond.selects RX4 yX4_asksNow yX4_asksNow, Cond.code yX4_asksNow cX4_asksNow 2 (some .boolean), Cond.methodLink RX4 173 yX4_hopOrStrike, Cond.instanceMethod yX4_hopOrStrike, Cond.selects RX4 yX4_hopOrStrike yX4_hopOrStrike, Cond.code yX4_hopOrStrike cX4_hopOrStrike 4 (some .int), Cond.methodLink RX4 177 yX4_cutLeases, Cond.instanceMethod yX4_cutLeases, Cond.selects RX4 yX4_cutLeases yX4_cutLeases, Cond.code yX4_cutLeases cX4_cutLeases 2 none]
def wsL_law : List Cond := (wsL_law_r1 ++ (wsL_law_r2 ++ (wsL_law_r3 ++ (wsL_law_r4 ++ (wsL_law_r5 ++ (wsL_law_r6 ++ (wsL_law_r7 ++ (wsL_law_r8 ++ (wsL_law_r9 ++ (wsL_law_r10 ++ (wsL_law_r11 ++ (wsL_law_r12 ++ (wsL_law_r13 ++ (wsL_law_r14 ++ (wsL_law_r15 ++ (wsL_law_r16 ++ (wsL_law_r17 ++ (wsL_law_r18 ++ (wsL_law_r19 ++ wsL_law_r20))))))))))))))))))) ++ wsX60 ++ wsX40 ++ wsX30 ++ wsX00 ++ wsX50 ++ wsX20 ++ wsX10 ++ ([] : List Cond)
set_option maxRecDepth 20000 in
theorem wsL_in_1 : ∀ w ∈ wsL_law_r1, w ∈ lw_tbl := fun w h => (goodIn_p wsL_law_r1 [25, 28] (by decide +kernel) (by decide +kernel) w h).1
set_option maxRecDepth 20000 in
theorem wsL_in_2 : ∀ w ∈ wsL_law_r2, w ∈ lw_tbl := fun w h => (goodIn_p wsL_law_r2 [33, 39] (by decide +kernel) (by decide +kernel) w h).1
set_option maxRecDepth 20000 in
theorem wsL_in_3 : ∀ w ∈ wsL_law_r3, w ∈ lw_tbl := fun w h => (goodIn_p wsL_law_r3 [72, 111] (by decide +kernel) (by decide +kernel) w h).1
set_option maxRecDepth 20000 in
theorem wsL_in_4_0 : ∀ w ∈ ([Cond.fieldLink RX1 33 "VacantAir$Devices" "hops" "[I", Cond.fieldLink RX1 36 "VacantAir$Devices" "struck" "[I", Cond.fieldLink RX1 39 "VacantAir$Devices" "cut" "[I", Cond.methodLink RX6 21 yX3_init, Cond.instanceMethod yX3_init, Cond.code yX3_init cX3_init 2 none, Cond.methodLink RX3 3 objectInit, Cond.classLink RX3 9 RX4, Cond.fieldLink RX3 11 "VacantAir$History" "ring" "[LVacantAir$State;", Cond.methodLink RX3 17 yX4_init, Cond.instanceMethod yX0_init, Cond.code yX0_init cX0_init 1 none, Cond.methodLink RX0 3 objectInit, Cond.fieldLink RX0 9 "VacantAir$ActText" "bytes" "[I", Cond.fieldLink RX0 15 "VacantAir$ActText" "fault" "I", Cond.methodLink RL 122 yL_isSo, Cond.static yL_isSo, Cond.initialized RL] : List Cond), w ∈ lw_tbl := (fun w h => (goodIn_p [Cond.fieldLink RX1 33 "VacantAir$Devices" "hops" "[I", Cond.fieldLink RX1 36 "VacantAir$Devices" "struck" "[I", Cond.fieldLink RX1 39 "VacantAir$Devices" "cut" "[I", Cond.methodLink RX6 21 yX3_init, Cond.instanceMethod yX3_init, Cond.code yX3_init cX3_init 2 none, Cond.methodLink RX3 3 objectInit, Cond.classLink RX3 9 RX4, Cond.fieldLink RX3 11 "VacantAir$History" "ring" "[LVacantAir$State;", Cond.methodLink RX3 17 yX4_init, Cond.instanceMethod yX0_init, Cond.code yX0_init cX0_init 1 none, Cond.methodLink RX0 3 objectInit, Cond.fieldLink RX0 9 "VacantAir$ActText" "bytes" "[I", Cond.fieldLink RX0 15 "VacantAir$ActText" "fault" "I", Cond.methodLink RL 122 yL_isSo, Cond.static yL_isSo, Cond.initialized RL] [188, 208] (by decide +kernel) (by decide +kernel) w h).1)
set_option maxRecDepth 20000 in
theorem wsL_in_4_1 : ∀ w ∈ ([Cond.methodLink RL 26 yL_may, Cond.static yL_may, Cond.code yL_may cL_may 7 (some .boolean), Cond.methodLink RL 22 yL_allowed, Cond.static yL_allowed] : List Cond), w ∈ lw_tbl := (fun w h => (goodIn_p [Cond.methodLink RL 26 yL_may, Cond.static yL_may, Cond.code yL_may cL_may 7 (some .boolean), Cond.methodLink RL 22 yL_allowed, Cond.static yL_allowed] [451] (by decide +kernel) (by decide +kernel) w h).1)
set_option maxRecDepth 20000 in
theorem wsL_inb_4_0 : Cond.code yL_isSo cL_isSo 16 (some .boolean) ∈ lw_tbl := List.mem_append_right _ (List.mem_append_right _ (List.mem_append_right _ (List.mem_of_getElem? (l := tables_1_3) (i := 116) rfl)))
set_option maxRecDepth 20000 in
theorem wsL_in_4 : ∀ w ∈ wsL_law_r4, w ∈ lw_tbl := (List.forall_mem_append.mpr ⟨wsL_in_4_0, List.forall_mem_cons.mpr ⟨wsL_inb_4_0, wsL_in_4_1⟩⟩ : ∀ w ∈ ([Cond.fieldLink RX1 33 "VacantAir$Devices" "hops" "[I", Cond.fieldLink RX1 36 "VacantAir$Devices" "struck" "[I", Cond.fieldLink RX1 39 "VacantAir$Devices" "cut" "[I", Cond.methodLink RX6 21 yX3_init, Cond.instanceMethod yX3_init, Cond.code yX3_init cX3_init 2 none, Cond.methodLink RX3 3 objectInit, Cond.classLink RX3 9 RX4, Cond.fieldLink RX3 11 "VacantAir$History" "ring" "[LVacantAir$State;", Cond.methodLink RX3 17 yX4_init, Cond.instanceMethod yX0_init, Cond.code yX0_init cX0_init 1 none, Cond.methodLink RX0 3 objectInit, Cond.fieldLink RX0 9 "VacantAir$ActText" "bytes" "[I", Cond.fieldLink RX0 15 "VacantAir$ActText" "fault" "I", Cond.methodLink RL 122 yL_isSo, Cond.static yL_isSo, Cond.initialized RL] : List Cond) ++ (Cond.code yL_isSo cL_isSo 16 (some .boolean) :: (([Cond.methodLink RL 26 yL_may, Cond.static yL_may, Cond.code yL_may cL_may 7 (some .boolean), Cond.methodLink RL 22 yL_allowed, Cond.static yL_allowed] : List Cond))), w ∈ lw_tbl)
set_option maxRecDepth 20000 in
theorem wsL_in_5_0 : ∀ w ∈ ([] : List Cond), w ∈ lw_tbl := fun _ h => absurd h List.not_mem_nil
set_option maxRecDepth 20000 in
theorem wsL_in_5_1 : ∀ w ∈ ([Cond.methodLink RL 9 yL_radius, Cond.static yL_radius, Cond.code yL_radius cL_radius 1 (some .int), Cond.methodLink RL 15 yL_reach, Cond.static yL_reach, Cond.code yL_reach cL_reach 1 (some .int), Cond.methodLink RL 18 yL_near, Cond.static yL_near, Cond.code yL_near cL_near 7 (some .boolean), Cond.methodLink RL 107 yX6_station, Cond.instanceMethod yX6_station, Cond.selects RX6 yX6_station yX6_station, Cond.code yX6_station cX6_station 3 (some .int), Cond.fieldLink RX6 132 "VacantAir$State" "stations" "LVacantAir$Stations;", Cond.methodLink RX6 136 yX5_has, Cond.instanceMethod yX5_has, Cond.selects RX5 yX5_has yX5_has, Cond.code yX5_has cX5_has 2 (some .boolean), Cond.fieldLink RX5 27 "VacantAir$Stations" "count" "I", Cond.methodLink RX6 122 yX6_isOutside, Cond.static yX6_isOutside, Cond.code yX6_isOutside cX6_isOutside 3 (some .boolean), Cond.methodLink RX6 142 yX6_barredAlone] : List Cond), w ∈ lw_tbl := (fun w h => (goodIn_p [Cond.methodLink RL 9 yL_radius, Cond.static yL_radius, Cond.code yL_radius cL_radius 1 (some .int), Cond.methodLink RL 15 yL_reach, Cond.static yL_reach, Cond.code yL_reach cL_reach 1 (some .int), Cond.methodLink RL 18 yL_near, Cond.static yL_near, Cond.code yL_near cL_near 7 (some .boolean), Cond.methodLink RL 107 yX6_station, Cond.instanceMethod yX6_station, Cond.selects RX6 yX6_station yX6_station, Cond.code yX6_station cX6_station 3 (some .int), Cond.fieldLink RX6 132 "VacantAir$State" "stations" "LVacantAir$Stations;", Cond.methodLink RX6 136 yX5_has, Cond.instanceMethod yX5_has, Cond.selects RX5 yX5_has yX5_has, Cond.code yX5_has cX5_has 2 (some .boolean), Cond.fieldLink RX5 27 "VacantAir$Stations" "count" "I", Cond.methodLink RX6 122 yX6_isOutside, Cond.static yX6_isOutside, Cond.code yX6_isOutside cX6_isOutside 3 (some .boolean), Cond.methodLink RX6 142 yX6_barredAlone] [457, 460, 463, 253, 257, 260] (by decide +kernel) (by decide +kernel) w h).1)
set_option maxRecDepth 20000 in
theorem wsL_inb_5_0 : Cond.code yL_allowed cL_allowed 11 (some .boolean) ∈ lw_tbl := List.mem_append_right _ (List.mem_append_right _ (List.mem_append_left _ (List.mem_of_getElem? (l := tables_1_2) (i := 203) rfl)))
set_option maxRecDepth 20000 in
theorem wsL_in_5 : ∀ w ∈ wsL_law_r5, w ∈ lw_tbl := (List.forall_mem_append.mpr ⟨wsL_in_5_0, List.forall_mem_cons.mpr ⟨wsL_inb_5_0, wsL_in_5_1⟩⟩ : ∀ w ∈ ([] : List Cond) ++ (Cond.code yL_allowed cL_allowed 11 (some .boolean) :: (([Cond.methodLink RL 9 yL_radius, Cond.static yL_radius, Cond.code yL_radius cL_radius 1 (some .int), Cond.methodLink RL 15 yL_reach, Cond.static yL_reach, Cond.code yL_reach cL_reach 1 (some .int), Cond.methodLink RL 18 yL_near, Cond.static yL_near, Cond.code yL_near cL_near 7 (some .boolean), Cond.methodLink RL 107 yX6_station, Cond.instanceMethod yX6_station, Cond.selects RX6 yX6_station yX6_station, Cond.code yX6_station cX6_station 3 (some .int), Cond.fieldLink RX6 132 "VacantAir$State" "stations" "LVacantAir$Stations;", Cond.methodLink RX6 136 yX5_has, Cond.instanceMethod yX5_has, Cond.selects RX5 yX5_has yX5_has, Cond.code yX5_has cX5_has 2 (some .boolean), Cond.fieldLink RX5 27 "VacantAir$Stations" "count" "I", Cond.methodLink RX6 122 yX6_isOutside, Cond.static yX6_isOutside, Cond.code yX6_isOutside cX6_isOutside 3 (some .boolean), Cond.methodLink RX6 142 yX6_barredAlone] : List Cond))), w ∈ lw_tbl)
set_option maxRecDepth 20000 in
theorem wsL_in_6 : ∀ w ∈ wsL_law_r6, w ∈ lw_tbl := fun w h => (goodIn_p wsL_law_r6 [264, 268, 272, 275, 278] (by decide +kernel) (by decide +kernel) w h).1
set_option maxRecDepth 20000 in
theorem wsL_in_7 : ∀ w ∈ wsL_law_r7, w ∈ lw_tbl := fun w h => (goodIn_p wsL_law_r7 [285, 290, 296, 300] (by decide +kernel) (by decide +kernel) w h).1
set_option maxRecDepth 20000 in
theorem wsL_in_8 : ∀ w ∈ wsL_law_r8, w ∈ lw_tbl := fun w h => (goodIn_p wsL_law_r8 [304, 308, 315] (by decide +kernel) (by decide +kernel) w h).1
set_option maxRecDepth 20000 in
theorem wsL_in_9 : ∀ w ∈ wsL_law_r9, w ∈ lw_tbl := fun w h => (goodIn_p wsL_law_r9 [319, 323, 328, 332, 336, 341] (by decide +kernel) (by decide +kernel) w h).1
set_option maxRecDepth 20000 in
theorem wsL_in_10 : ∀ w ∈ wsL_law_r10, w ∈ lw_tbl := fun w h => (goodIn_p wsL_law_r10 [345, 349, 353, 358, 362] (by decide +kernel) (by decide +kernel) w h).1
set_option maxRecDepth 20000 in
theorem wsL_in_11 : ∀ w ∈ wsL_law_r11, w ∈ lw_tbl := fun w h => (goodIn_p wsL_law_r11 [366, 573, 370, 374, 378] (by decide +kernel) (by decide +kernel) w h).1
set_option maxRecDepth 20000 in
theorem wsL_in_12_0 : ∀ w ∈ ([Cond.selects RX1 yX1_countLeases yX1_countLeases, Cond.code yX1_countLeases cX1_countLeases 3 (some .int), Cond.methodLink RX4 134 yX1_countNotices, Cond.instanceMethod yX1_countNotices, Cond.selects RX1 yX1_countNotices yX1_countNotices, Cond.code yX1_countNotices cX1_countNotices 3 (some .int), Cond.methodLink RX4 220 yX1_sumOf, Cond.instanceMethod yX1_sumOf, Cond.selects RX1 yX1_sumOf yX1_sumOf, Cond.code yX1_sumOf cX1_sumOf 4 (some .int), Cond.methodLink RL 62 yL_notices, Cond.static yL_notices, Cond.code yL_notices cL_notices 4 (some .int), Cond.methodLink RL 126 yL_cell, Cond.static yL_cell, Cond.code yL_cell cL_cell 2 (some .int), Cond.constant RL 7 (40503), Cond.methodLink RL 130 yL_acts, Cond.static yL_acts] : List Cond), w ∈ lw_tbl := (fun w h => (goodIn_p [Cond.selects RX1 yX1_countLeases yX1_countLeases, Cond.code yX1_countLeases cX1_countLeases 3 (some .int), Cond.methodLink RX4 134 yX1_countNotices, Cond.instanceMethod yX1_countNotices, Cond.selects RX1 yX1_countNotices yX1_countNotices, Cond.code yX1_countNotices cX1_countNotices 3 (some .int), Cond.methodLink RX4 220 yX1_sumOf, Cond.instanceMethod yX1_sumOf, Cond.selects RX1 yX1_sumOf yX1_sumOf, Cond.code yX1_sumOf cX1_sumOf 4 (some .int), Cond.methodLink RL 62 yL_notices, Cond.static yL_notices, Cond.code yL_notices cL_notices 4 (some .int), Cond.methodLink RL 126 yL_cell, Cond.static yL_cell, Cond.code yL_cell cL_cell 2 (some .int), Cond.constant RL 7 (40503), Cond.methodLink RL 130 yL_acts, Cond.static yL_acts] [382, 386, 390, 497, 393] (by decide +kernel) (by decide +kernel) w h).1)
set_option maxRecDepth 20000 in
theorem wsL_in_12_1 : ∀ w ∈ ([Cond.constant RL 85 (10000000), Cond.methodLink RL 86 yL_low, Cond.static yL_low, Cond.code yL_low cL_low 2 (some .int)] : List Cond), w ∈ lw_tbl := (fun w h => (goodIn_p [Cond.constant RL 85 (10000000), Cond.methodLink RL 86 yL_low, Cond.static yL_low, Cond.code yL_low cL_low 2 (some .int)] [397] (by decide +kernel) (by decide +kernel) w h).1)
set_option maxRecDepth 20000 in
theorem wsL_inb_12_0 : Cond.code yL_acts cL_acts 13 (some .boolean) ∈ lw_tbl := List.mem_append_right _ (List.mem_append_right _ (List.mem_append_left _ (List.mem_of_getElem? (l := tables_1_2) (i := 150) rfl)))
set_option maxRecDepth 20000 in
theorem wsL_in_12 : ∀ w ∈ wsL_law_r12, w ∈ lw_tbl := (List.forall_mem_append.mpr ⟨wsL_in_12_0, List.forall_mem_cons.mpr ⟨wsL_inb_12_0, wsL_in_12_1⟩⟩ : ∀ w ∈ ([Cond.selects RX1 yX1_countLeases yX1_countLeases, Cond.code yX1_countLeases cX1_countLeases 3 (some .int), Cond.methodLink RX4 134 yX1_countNotices, Cond.instanceMethod yX1_countNotices, Cond.selects RX1 yX1_countNotices yX1_countNotices, Cond.code yX1_countNotices cX1_countNotices 3 (some .int), Cond.methodLink RX4 220 yX1_sumOf, Cond.instanceMethod yX1_sumOf, Cond.selects RX1 yX1_sumOf yX1_sumOf, Cond.code yX1_sumOf cX1_sumOf 4 (some .int), Cond.methodLink RL 62 yL_notices, Cond.static yL_notices, Cond.code yL_notices cL_notices 4 (some .int), Cond.methodLink RL 126 yL_cell, Cond.static yL_cell, Cond.code yL_cell cL_cell 2 (some .int), Cond.constant RL 7 (40503), Cond.methodLink RL 130 yL_acts, Cond.static yL_acts] : List Cond) ++ (Cond.code yL_acts cL_acts 13 (some .boolean) :: (([Cond.constant RL 85 (10000000), Cond.methodLink RL 86 yL_low, Cond.static yL_low, Cond.code yL_low cL_low 2 (some .int)] : List Cond))), w ∈ lw_tbl)
set_option maxRecDepth 20000 in
theorem wsL_in_13_0 : ∀ w ∈ ([Cond.methodLink RL 89 yL_adds, Cond.static yL_adds] : List Cond), w ∈ lw_tbl := (fun w h => (goodIn_p [Cond.methodLink RL 89 yL_adds, Cond.static yL_adds] [] (by decide +kernel) (by decide +kernel) w h).1)
set_option maxRecDepth 20000 in
theorem wsL_in_13_1 : ∀ w ∈ ([Cond.methodLink RL 42 yX6_addStation, Cond.instanceMethod yX6_addStation, Cond.selects RX6 yX6_addStation yX6_addStation, Cond.code yX6_addStation cX6_addStation 5 (some .int), Cond.methodLink RX6 41 yX3_note, Cond.instanceMethod yX3_note, Cond.selects RX3 yX3_note yX3_note, Cond.code yX3_note cX3_note 2 none, Cond.fieldLink RX3 18 "VacantAir$History" "oldest" "I", Cond.fieldLink RX3 22 "VacantAir$History" "count" "I", Cond.methodLink RX3 25 yX4_copyFrom, Cond.methodLink RX6 45 yX4_putStation, Cond.instanceMethod yX4_putStation, Cond.selects RX4 yX4_putStation yX4_putStation, Cond.code yX4_putStation cX4_putStation 6 (some .int), Cond.static yX6_isNoPlace, Cond.code yX6_isNoPlace cX6_isNoPlace 2 (some .boolean), Cond.methodLink RX6 49 yX6_recorded, Cond.instanceMethod yX6_recorded, Cond.selects RX6 yX6_recorded yX6_recorded, Cond.code yX6_recorded cX6_recorded 2 (some .int)] : List Cond), w ∈ lw_tbl := (fun w h => (goodIn_p [Cond.methodLink RL 42 yX6_addStation, Cond.instanceMethod yX6_addStation, Cond.selects RX6 yX6_addStation yX6_addStation, Cond.code yX6_addStation cX6_addStation 5 (some .int), Cond.methodLink RX6 41 yX3_note, Cond.instanceMethod yX3_note, Cond.selects RX3 yX3_note yX3_note, Cond.code yX3_note cX3_note 2 none, Cond.fieldLink RX3 18 "VacantAir$History" "oldest" "I", Cond.fieldLink RX3 22 "VacantAir$History" "count" "I", Cond.methodLink RX3 25 yX4_copyFrom, Cond.methodLink RX6 45 yX4_putStation, Cond.instanceMethod yX4_putStation, Cond.selects RX4 yX4_putStation yX4_putStation, Cond.code yX4_putStation cX4_putStation 6 (some .int), Cond.static yX6_isNoPlace, Cond.code yX6_isNoPlace cX6_isNoPlace 2 (some .boolean), Cond.methodLink RX6 49 yX6_recorded, Cond.instanceMethod yX6_recorded, Cond.selects RX6 yX6_recorded yX6_recorded, Cond.code yX6_recorded cX6_recorded 2 (some .int)] [409, 413, 418, 421, 426] (by decide +kernel) (by decide +kernel) w h).1)
set_option maxRecDepth 20000 in
theorem wsL_inb_13_0 : Cond.code yL_adds cL_adds 15 (some .boolean) ∈ lw_tbl := List.mem_append_right _ (List.mem_append_right _ (List.mem_append_left _ (List.mem_of_getElem? (l := tables_1_2) (i := 154) rfl)))
set_option maxRecDepth 20000 in
theorem wsL_in_13 : ∀ w ∈ wsL_law_r13, w ∈ lw_tbl := (List.forall_mem_append.mpr ⟨wsL_in_13_0, List.forall_mem_cons.mpr ⟨wsL_inb_13_0, wsL_in_13_1⟩⟩ : ∀ w ∈ ([Cond.methodLink RL 89 yL_adds, Cond.static yL_adds] : List Cond) ++ (Cond.code yL_adds cL_adds 15 (some .boolean) :: (([Cond.methodLink RL 42 yX6_addStation, Cond.instanceMethod yX6_addStation, Cond.selects RX6 yX6_addStation yX6_addStation, Cond.code yX6_addStation cX6_addStation 5 (some .int), Cond.methodLink RX6 41 yX3_note, Cond.instanceMethod yX3_note, Cond.selects RX3 yX3_note yX3_note, Cond.code yX3_note cX3_note 2 none, Cond.fieldLink RX3 18 "VacantAir$History" "oldest" "I", Cond.fieldLink RX3 22 "VacantAir$History" "count" "I", Cond.methodLink RX3 25 yX4_copyFrom, Cond.methodLink RX6 45 yX4_putStation, Cond.instanceMethod yX4_putStation, Cond.selects RX4 yX4_putStation yX4_putStation, Cond.code yX4_putStation cX4_putStation 6 (some .int), Cond.static yX6_isNoPlace, Cond.code yX6_isNoPlace cX6_isNoPlace 2 (some .boolean), Cond.methodLink RX6 49 yX6_recorded, Cond.instanceMethod yX6_recorded, Cond.selects RX6 yX6_recorded yX6_recorded, Cond.code yX6_recorded cX6_recorded 2 (some .int)] : List Cond))), w ∈ lw_tbl)
set_option maxRecDepth 20000 in
theorem wsL_in_14 : ∀ w ∈ wsL_law_r14, w ∈ lw_tbl := fun w h => (goodIn_p wsL_law_r14 [430, 434, 438, 442] (by decide +kernel) (by decide +kernel) w h).1
set_option maxRecDepth 20000 in
theorem wsL_in_15_0 : ∀ w ∈ ([Cond.static yL_review, Cond.code yL_review cL_review 7 none, Cond.methodLink RL 52 yX6_addDevice, Cond.instanceMethod yX6_addDevice, Cond.selects RX6 yX6_addDevice yX6_addDevice, Cond.code yX6_addDevice cX6_addDevice 4 (some .int), Cond.methodLink RX6 57 yX4_putDevice, Cond.instanceMethod yX4_putDevice, Cond.selects RX4 yX4_putDevice yX4_putDevice, Cond.code yX4_putDevice cX4_putDevice 5 (some .int), Cond.fieldLink RX4 108 "VacantAir$Devices" "greatest" "[I", Cond.methodLink RX4 120 yX1_removeLease, Cond.instanceMethod yX1_removeLease, Cond.selects RX1 yX1_removeLease yX1_removeLease, Cond.code yX1_removeLease cX1_removeLease 2 none, Cond.methodLink RL 30 yL_ends, Cond.static yL_ends, Cond.code yL_ends cL_ends 4 none, Cond.methodLink RL 93 yL_turns, Cond.static yL_turns] : List Cond), w ∈ lw_tbl := (fun w h => (goodIn_p [Cond.static yL_review, Cond.code yL_review cL_review 7 none, Cond.methodLink RL 52 yX6_addDevice, Cond.instanceMethod yX6_addDevice, Cond.selects RX6 yX6_addDevice yX6_addDevice, Cond.code yX6_addDevice cX6_addDevice 4 (some .int), Cond.methodLink RX6 57 yX4_putDevice, Cond.instanceMethod yX4_putDevice, Cond.selects RX4 yX4_putDevice yX4_putDevice, Cond.code yX4_putDevice cX4_putDevice 5 (some .int), Cond.fieldLink RX4 108 "VacantAir$Devices" "greatest" "[I", Cond.methodLink RX4 120 yX1_removeLease, Cond.instanceMethod yX1_removeLease, Cond.selects RX1 yX1_removeLease yX1_removeLease, Cond.code yX1_removeLease cX1_removeLease 2 none, Cond.methodLink RL 30 yL_ends, Cond.static yL_ends, Cond.code yL_ends cL_ends 4 none, Cond.methodLink RL 93 yL_turns, Cond.static yL_turns] [448, 467, 471, 475, 478] (by decide +kernel) (by decide +kernel) w h).1)
set_option maxRecDepth 20000 in
theorem wsL_in_15_1 : ∀ w ∈ ([Cond.methodLink RL 56 yX6_wake, Cond.instanceMethod yX6_wake, Cond.selects RX6 yX6_wake yX6_wake] : List Cond), w ∈ lw_tbl := (fun w h => (goodIn_p [Cond.methodLink RL 56 yX6_wake, Cond.instanceMethod yX6_wake, Cond.selects RX6 yX6_wake yX6_wake] [] (by decide +kernel) (by decide +kernel) w h).1)
set_option maxRecDepth 20000 in
theorem wsL_inb_15_0 : Cond.code yL_turns cL_turns 10 (some .boolean) ∈ lw_tbl := List.mem_append_right _ (List.mem_append_right _ (List.mem_append_left _ (List.mem_of_getElem? (l := tables_1_2) (i := 230) rfl)))
set_option maxRecDepth 20000 in
theorem wsL_in_15 : ∀ w ∈ wsL_law_r15, w ∈ lw_tbl := (List.forall_mem_append.mpr ⟨wsL_in_15_0, List.forall_mem_cons.mpr ⟨wsL_inb_15_0, wsL_in_15_1⟩⟩ : ∀ w ∈ ([Cond.static yL_review, Cond.code yL_review cL_review 7 none, Cond.methodLink RL 52 yX6_addDevice, Cond.instanceMethod yX6_addDevice, Cond.selects RX6 yX6_addDevice yX6_addDevice, Cond.code yX6_addDevice cX6_addDevice 4 (some .int), Cond.methodLink RX6 57 yX4_putDevice, Cond.instanceMethod yX4_putDevice, Cond.selects RX4 yX4_putDevice yX4_putDevice, Cond.code yX4_putDevice cX4_putDevice 5 (some .int), Cond.fieldLink RX4 108 "VacantAir$Devices" "greatest" "[I", Cond.methodLink RX4 120 yX1_removeLease, Cond.instanceMethod yX1_removeLease, Cond.selects RX1 yX1_removeLease yX1_removeLease, Cond.code yX1_removeLease cX1_removeLease 2 none, Cond.methodLink RL 30 yL_ends, Cond.static yL_ends, Cond.code yL_ends cL_ends 4 none, Cond.methodLink RL 93 yL_turns, Cond.static yL_turns] : List Cond) ++ (Cond.code yL_turns cL_turns 10 (some .boolean) :: (([Cond.methodLink RL 56 yX6_wake, Cond.instanceMethod yX6_wake, Cond.selects RX6 yX6_wake yX6_wake] : List Cond))), w ∈ lw_tbl)
set_option maxRecDepth 20000 in
theorem wsL_in_16 : ∀ w ∈ wsL_law_r16, w ∈ lw_tbl := fun w h => (goodIn_p wsL_law_r16 [485, 489, 494, 501, 505, 510] (by decide +kernel) (by decide +kernel) w h).1
set_option maxRecDepth 20000 in
theorem wsL_in_17 : ∀ w ∈ wsL_law_r17, w ∈ lw_tbl := fun w h => (goodIn_p wsL_law_r17 [514, 522, 526, 531, 535] (by decide +kernel) (by decide +kernel) w h).1
set_option maxRecDepth 20000 in
theorem wsL_in_18 : ∀ w ∈ wsL_law_r18, w ∈ lw_tbl := fun w h => (goodIn_p wsL_law_r18 [539, 543, 548, 552, 556, 560] (by decide +kernel) (by decide +kernel) w h).1
set_option maxRecDepth 20000 in
theorem wsL_in_19_0 : ∀ w ∈ ([Cond.selects RX4 yX4_dropLease yX4_dropLease, Cond.code yX4_dropLease cX4_dropLease 2 (some .int), Cond.methodLink RL 97 yL_leased, Cond.static yL_leased] : List Cond), w ∈ lw_tbl := (fun w h => (goodIn_p [Cond.selects RX4 yX4_dropLease yX4_dropLease, Cond.code yX4_dropLease cX4_dropLease 2 (some .int), Cond.methodLink RL 97 yL_leased, Cond.static yL_leased] [564] (by decide +kernel) (by decide +kernel) w h).1)
set_option maxRecDepth 20000 in
theorem wsL_in_19_1 : ∀ w ∈ ([Cond.methodLink RL 38 yL_offer, Cond.static yL_offer] : List Cond), w ∈ lw_tbl := (fun w h => (goodIn_p [Cond.methodLink RL 38 yL_offer, Cond.static yL_offer] [] (by decide +kernel) (by decide +kernel) w h).1)
set_option maxRecDepth 20000 in
theorem wsL_in_19_2 : ∀ w ∈ ([Cond.methodLink RL 100 yL_hour, Cond.static yL_hour] : List Cond), w ∈ lw_tbl := (fun w h => (goodIn_p [Cond.methodLink RL 100 yL_hour, Cond.static yL_hour] [] (by decide +kernel) (by decide +kernel) w h).1)
set_option maxRecDepth 20000 in
theorem wsL_in_19_3 : ∀ w ∈ ([Cond.methodLink RL 104 yX6_pass, Cond.instanceMethod yX6_pass, Cond.selects RX6 yX6_pass yX6_pass, Cond.code yX6_pass cX6_pass 2 (some .int), Cond.methodLink RX6 80 yX4_passHours, Cond.instanceMethod yX4_passHours, Cond.selects RX4 yX4_passHours yX4_passHours, Cond.code yX4_passHours cX4_passHours 4 (some .int), Cond.methodLink RX4 164 yX4_passOneHour, Cond.instanceMethod yX4_passOneHour, Cond.selects RX4 yX4_passOneHour yX4_passOneHour, Cond.code yX4_passOneHour cX4_passOneHour 3 (some .int), Cond.methodLink RX4 167 yX4_endLeases] : List Cond), w ∈ lw_tbl := (fun w h => (goodIn_p [Cond.methodLink RL 104 yX6_pass, Cond.instanceMethod yX6_pass, Cond.selects RX6 yX6_pass yX6_pass, Cond.code yX6_pass cX6_pass 2 (some .int), Cond.methodLink RX6 80 yX4_passHours, Cond.instanceMethod yX4_passHours, Cond.selects RX4 yX4_passHours yX4_passHours, Cond.code yX4_passHours cX4_passHours 4 (some .int), Cond.methodLink RX4 164 yX4_passOneHour, Cond.instanceMethod yX4_passOneHour, Cond.selects RX4 yX4_passOneHour yX4_passOneHour, Cond.code yX4_passOneHour cX4_passOneHour 3 (some .int), Cond.methodLink RX4 167 yX4_endLeases] [580, 584, 588] (by decide +kernel) (by decide +kernel) w h).1)
set_option maxRecDepth 20000 in
theorem wsL_inb_19_0 : Cond.code yL_leased cL_leased 13 (some .boolean) ∈ lw_tbl := List.mem_append_right _ (List.mem_append_right _ (List.mem_append_right _ (List.mem_of_getElem? (l := tables_1_3) (i := 76) rfl)))
set_option maxRecDepth 20000 in
theorem wsL_inb_19_1 : Cond.code yL_offer cL_offer 13 (some .int) ∈ lw_tbl := List.mem_append_right _ (List.mem_append_right _ (List.mem_append_right _ (List.mem_of_getElem? (l := tables_1_3) (i := 79) rfl)))
set_option maxRecDepth 20000 in
theorem wsL_inb_19_2 : Cond.code yL_hour cL_hour 10 (some .int) ∈ lw_tbl := List.mem_append_right _ (List.mem_append_right _ (List.mem_append_right _ (List.mem_of_getElem? (l := tables_1_3) (i := 85) rfl)))
set_option maxRecDepth 20000 in
theorem wsL_in_19 : ∀ w ∈ wsL_law_r19, w ∈ lw_tbl := (List.forall_mem_append.mpr ⟨wsL_in_19_0, List.forall_mem_cons.mpr ⟨wsL_inb_19_0, List.forall_mem_append.mpr ⟨wsL_in_19_1, List.forall_mem_cons.mpr ⟨wsL_inb_19_1, List.forall_mem_append.mpr ⟨wsL_in_19_2, List.forall_mem_cons.mpr ⟨wsL_inb_19_2, wsL_in_19_3⟩⟩⟩⟩⟩⟩ : ∀ w ∈ ([Cond.selects RX4 yX4_dropLease yX4_dropLease, Cond.code yX4_dropLease cX4_dropLease 2 (some .int), Cond.methodLink RL 97 yL_leased, Cond.static yL_leased] : List Cond) ++ (Cond.code yL_leased cL_leased 13 (some .boolean) :: (([Cond.methodLink RL 38 yL_offer, Cond.static yL_offer] : List Cond) ++ (Cond.code yL_offer cL_offer 13 (some .int) :: (([Cond.methodLink RL 100 yL_hour, Cond.static yL_hour] : List Cond) ++ (Cond.code yL_hour cL_hour 10 (some .int) :: (([Cond.methodLink RL 104 yX6_pass, Cond.instanceMethod yX6_pass, Cond.selects RX6 yX6_pass yX6_pass, Cond.code yX6_pass cX6_pass 2 (some .int), Cond.methodLink RX6 80 yX4_passHours, Cond.instanceMethod yX4_passHours, Cond.selects RX4 yX4_passHours yX4_passHours, Cond.code yX4_passHours cX4_passHours 4 (some .int), Cond.methodLink RX4 164 yX4_passOneHour, Cond.instanceMethod yX4_passOneHour, Cond.selects RX4 yX4_passOneHour yX4_passOneHour, Cond.code yX4_passOneHour cX4_passOneHour 3 (some .int), Cond.methodLink RX4 167 yX4_endLeases] : List Cond))))))), w ∈ lw_tbl)
set_option maxRecDepth 20000 in
theorem wsL_in_20 : ∀ w ∈ wsL_law_r20, w ∈ lw_tbl := fun w h => (goodIn_p wsL_law_r20 [592, 596, 600, 604] (by decide +kernel) (by decide +kernel) w h).1
set_option maxRecDepth 20000 in
theorem inqwsX60 : ∀ w ∈ wsX60, w ∈ lw_tbl := by decide +kernel
set_option maxRecDepth 20000 in
theorem inqwsX40 : ∀ w ∈ wsX40, w ∈ lw_tbl := by decide +kernel
set_option maxRecDepth 20000 in
theorem inqwsX30 : ∀ w ∈ wsX30, w ∈ lw_tbl := by decide +kernel
set_option maxRecDepth 20000 in
theorem inqwsX00 : ∀ w ∈ wsX00, w ∈ lw_tbl := by decide +kernel
set_option maxRecDepth 20000 in
theorem inqwsX50 : ∀ w ∈ wsX50, w ∈ lw_tbl := by decide +kernel
set_option maxRecDepth 20000 in
theorem inqwsX20 : ∀ w ∈ wsX20, w ∈ lw_tbl := by decide +kernel
set_option maxRecDepth 20000 in
theorem inqwsX10 : ∀ w ∈ wsX10, w ∈ lw_tbl := by decide +kernel
theorem wsL_law_in : ∀ w ∈ wsL_law, w ∈ lw_tbl := List.forall_mem_append.mpr ⟨List.forall_mem_append.mpr ⟨List.forall_mem_append.mpr ⟨List.forall_mem_append.mpr ⟨List.forall_mem_append.mpr ⟨List.forall_mem_append.mpr ⟨List.forall_mem_append.mpr ⟨List.forall_mem_append.mpr ⟨List.forall_mem_append.mpr ⟨wsL_in_1, List.forall_mem_append.mpr ⟨wsL_in_2, List.forall_mem_append.mpr ⟨wsL_in_3, List.forall_mem_append.mpr ⟨wsL_in_4, List.forall_mem_append.mpr ⟨wsL_in_5, List.forall_mem_append.mpr ⟨wsL_in_6, List.forall_mem_append.mpr ⟨wsL_in_7, List.forall_mem_append.mpr ⟨wsL_in_8, List.forall_mem_append.mpr ⟨wsL_in_9, List.forall_mem_append.mpr ⟨wsL_in_10, List.forall_mem_append.mpr ⟨wsL_in_11, List.forall_mem_append.mpr ⟨wsL_in_12, List.forall_mem_append.mpr ⟨wsL_in_13, List.forall_mem_append.mpr ⟨wsL_in_14, List.forall_mem_append.mpr ⟨wsL_in_15, List.forall_mem_append.mpr ⟨wsL_in_16, List.forall_mem_append.mpr ⟨wsL_in_17, List.forall_mem_append.mpr ⟨wsL_in_18, List.forall_mem_append.mpr ⟨wsL_in_19, wsL_in_20⟩⟩⟩⟩⟩⟩⟩⟩⟩⟩⟩⟩⟩⟩⟩⟩⟩⟩⟩, inqwsX60⟩, inqwsX40⟩, inqwsX30⟩, inqwsX00⟩, inqwsX50⟩, inqwsX20⟩, inqwsX10⟩, fun _ h => absurd h List.not_mem_nil⟩
theorem inlX0 : ∀ w ∈ wsX00, w ∈ wsL_law := fun _ h => List.mem_append_left _ (List.mem_append_left _ (List.mem_append_left _ (List.mem_append_left _ (List.mem_append_right _ h))))
theorem inX0 : ∀ w ∈ wsX00, w ∈ lw_tbl := fun w h => wsL_law_in w (inlX0 w h)
theorem inlX1 : ∀ w ∈ wsX10, w ∈ wsL_law := fun _ h => List.mem_append_left _ (List.mem_append_right _ h)
theorem inX1 : ∀ w ∈ wsX10, w ∈ lw_tbl := fun w h => wsL_law_in w (inlX1 w h)
theorem inlX2 : ∀ w ∈ wsX20, w ∈ wsL_law := fun _ h => List.mem_append_left _ (List.mem_append_left _ (List.mem_append_right _ h))
theorem inX2 : ∀ w ∈ wsX20, w ∈ lw_tbl := fun w h => wsL_law_in w (inlX2 w h)
theorem inlX3 : ∀ w ∈ wsX30, w ∈ wsL_law := fun _ h => List.mem_append_left _ (List.mem_append_left _ (List.mem_append_left _ (List.mem_append_left _ (List.mem_append_left _ (List.mem_append_right _ h)))))
theorem inX3 : ∀ w ∈ wsX30, w ∈ lw_tbl := fun w h => wsL_law_in w (inlX3 w h)
theorem inlX4 : ∀ w ∈ wsX40, w ∈ wsL_law := fun _ h => List.mem_append_left _ (List.mem_append_left _ (List.mem_append_left _ (List.mem_append_left _ (List.mem_append_left _ (List.mem_append_left _ (List.mem_append_right _ h))))))
theorem inX4 : ∀ w ∈ wsX40, w ∈ lw_tbl := fun w h => wsL_law_in w (inlX4 w h)
theorem inlX5 : ∀ w ∈ wsX50, w ∈ wsL_law := fun _ h => List.mem_append_left _ (List.mem_append_left _ (List.mem_append_left _ (List.mem_append_right _ h)))
theorem inX5 : ∀ w ∈ wsX50, w ∈ lw_tbl := fun w h => wsL_law_in w (inlX5 w h)
theorem inlX6 : ∀ w ∈ wsX60, w ∈ wsL_law := fun _ h => List.mem_append_left _ (List.mem_append_left _ (List.mem_append_left _ (List.mem_append_left _ (List.mem_append_left _ (List.mem_append_left _ (List.mem_append_left _ (List.mem_append_right _ h)))))))
theorem inX6 : ∀ w ∈ wsX60, w ∈ lw_tbl := fun w h => wsL_law_in w (inlX6 w h)
theorem inX7 : ∀ w ∈ wsX70, w ∈ lw_tbl := by decide +kernel
theorem inJ9 : ∀ w ∈ wsJ90, w ∈ lw_tbl := by decide +kernel
theorem inJ10 : ∀ w ∈ wsJ100, w ∈ lw_tbl := by decide +kernel
theorem dX0_init_0 : decode cX0_init 0 = .ok (.aload_n 0, 1) := by decide +kernel
theorem dX0_init_1 : decode cX0_init 1 = .ok (.invokespecial 3, 3) := by decide +kernel
theorem dX0_init_4 : decode cX0_init 4 = .ok (.aload_n 0, 1) := by decide +kernel
theorem dX0_init_5 : decode cX0_init 5 = .ok (.bipush 80, 2) := by decide +kernel
theorem dX0_init_7 : decode cX0_init 7 = .ok (.newarray .int, 2) := by decide +kernel
theorem dX0_init_9 : decode cX0_init 9 = .ok (.putfield 9, 3) := by decide +kernel
theorem dX0_init_12 : decode cX0_init 12 = .ok (.aload_n 0, 1) := by decide +kernel
theorem dX0_init_13 : decode cX0_init 13 = .ok (.bipush (-6), 2) := by decide +kernel
theorem dX0_init_15 : decode cX0_init 15 = .ok (.putfield 15, 3) := by decide +kernel
theorem dX0_init_18 : decode cX0_init 18 = .ok (.return_, 1) := by decide +kernel
theorem dX1_init_0 : decode cX1_init 0 = .ok (.aload_n 0, 1) := by decide +kernel
theorem dX1_init_1 : decode cX1_init 1 = .ok (.invokespecial 3, 3) := by decide +kernel
theorem dX1_init_4 : decode cX1_init 4 = .ok (.aload_n 0, 1) := by decide +kernel
theorem dX1_init_5 : decode cX1_init 5 = .ok (.bipush 16, 2) := by decide +kernel
theorem dX1_init_7 : decode cX1_init 7 = .ok (.newarray .int, 2) := by decide +kernel
theorem dX1_init_9 : decode cX1_init 9 = .ok (.putfield 9, 3) := by decide +kernel
theorem dX1_init_12 : decode cX1_init 12 = .ok (.aload_n 0, 1) := by decide +kernel
theorem dX1_init_13 : decode cX1_init 13 = .ok (.bipush 16, 2) := by decide +kernel
theorem dX1_init_15 : decode cX1_init 15 = .ok (.newarray .int, 2) := by decide +kernel
theorem dX1_init_17 : decode cX1_init 17 = .ok (.putfield 15, 3) := by decide +kernel
theorem dX1_init_20 : decode cX1_init 20 = .ok (.aload_n 0, 1) := by decide +kernel
theorem dX1_init_21 : decode cX1_init 21 = .ok (.bipush 16, 2) := by decide +kernel
theorem dX1_init_23 : decode cX1_init 23 = .ok (.newarray .int, 2) := by decide +kernel
theorem dX1_init_25 : decode cX1_init 25 = .ok (.putfield 18, 3) := by decide +kernel
theorem dX1_init_28 : decode cX1_init 28 = .ok (.aload_n 0, 1) := by decide +kernel
theorem dX1_init_29 : decode cX1_init 29 = .ok (.bipush 16, 2) := by decide +kernel
theorem dX1_init_31 : decode cX1_init 31 = .ok (.newarray .int, 2) := by decide +kernel
theorem dX1_init_33 : decode cX1_init 33 = .ok (.putfield 21, 3) := by decide +kernel
theorem dX1_init_36 : decode cX1_init 36 = .ok (.aload_n 0, 1) := by decide +kernel
theorem dX1_init_37 : decode cX1_init 37 = .ok (.bipush 16, 2) := by decide +kernel
theorem dX1_init_39 : decode cX1_init 39 = .ok (.newarray .int, 2) := by decide +kernel
theorem dX1_init_41 : decode cX1_init 41 = .ok (.putfield 24, 3) := by decide +kernel
theorem dX1_init_44 : decode cX1_init 44 = .ok (.aload_n 0, 1) := by decide +kernel
theorem dX1_init_45 : decode cX1_init 45 = .ok (.bipush 16, 2) := by decide +kernel
theorem dX1_init_47 : decode cX1_init 47 = .ok (.newarray .int, 2) := by decide +kernel
theorem dX1_init_49 : decode cX1_init 49 = .ok (.putfield 27, 3) := by decide +kernel
theorem dX1_init_52 : decode cX1_init 52 = .ok (.aload_n 0, 1) := by decide +kernel
theorem dX1_init_53 : decode cX1_init 53 = .ok (.bipush 16, 2) := by decide +kernel
theorem dX1_init_55 : decode cX1_init 55 = .ok (.newarray .int, 2) := by decide +kernel
theorem dX1_init_57 : decode cX1_init 57 = .ok (.putfield 30, 3) := by decide +kernel
theorem dX1_init_60 : decode cX1_init 60 = .ok (.aload_n 0, 1) := by decide +kernel
theorem dX1_init_61 : decode cX1_init 61 = .ok (.bipush 16, 2) := by decide +kernel
theorem dX1_init_63 : decode cX1_init 63 = .ok (.newarray .int, 2) := by decide +kernel
theorem dX1_init_65 : decode cX1_init 65 = .ok (.putfield 33, 3) := by decide +kernel
theorem dX1_init_68 : decode cX1_init 68 = .ok (.aload_n 0, 1) := by decide +kernel
theorem dX1_init_69 : decode cX1_init 69 = .ok (.bipush 16, 2) := by decide +kernel
theorem dX1_init_71 : decode cX1_init 71 = .ok (.newarray .int, 2) := by decide +kernel
theorem dX1_init_73 : decode cX1_init 73 = .ok (.putfield 36, 3) := by decide +kernel
theorem dX1_init_76 : decode cX1_init 76 = .ok (.aload_n 0, 1) := by decide +kernel
theorem dX1_init_77 : decode cX1_init 77 = .ok (.bipush 16, 2) := by decide +kernel
theorem dX1_init_79 : decode cX1_init 79 = .ok (.newarray .int, 2) := by decide +kernel
theorem dX1_init_81 : decode cX1_init 81 = .ok (.putfield 39, 3) := by decide +kernel
theorem dX1_init_84 : decode cX1_init 84 = .ok (.return_, 1) := by decide +kernel
theorem dX2_init_0 : decode cX2_init 0 = .ok (.aload_n 0, 1) := by decide +kernel
theorem dX2_init_1 : decode cX2_init 1 = .ok (.invokespecial 3, 3) := by decide +kernel
theorem dX2_init_4 : decode cX2_init 4 = .ok (.aload_n 0, 1) := by decide +kernel
theorem dX2_init_5 : decode cX2_init 5 = .ok (.bipush 8, 2) := by decide +kernel
theorem dX2_init_7 : decode cX2_init 7 = .ok (.newarray .int, 2) := by decide +kernel
theorem dX2_init_9 : decode cX2_init 9 = .ok (.putfield 9, 3) := by decide +kernel
theorem dX2_init_12 : decode cX2_init 12 = .ok (.aload_n 0, 1) := by decide +kernel
theorem dX2_init_13 : decode cX2_init 13 = .ok (.bipush 8, 2) := by decide +kernel
theorem dX2_init_15 : decode cX2_init 15 = .ok (.newarray .int, 2) := by decide +kernel
theorem dX2_init_17 : decode cX2_init 17 = .ok (.putfield 15, 3) := by decide +kernel
theorem dX2_init_20 : decode cX2_init 20 = .ok (.aload_n 0, 1) := by decide +kernel
theorem dX2_init_21 : decode cX2_init 21 = .ok (.bipush 8, 2) := by decide +kernel
theorem dX2_init_23 : decode cX2_init 23 = .ok (.newarray .int, 2) := by decide +kernel
theorem dX2_init_25 : decode cX2_init 25 = .ok (.putfield 18, 3) := by decide +kernel
theorem dX2_init_28 : decode cX2_init 28 = .ok (.aload_n 0, 1) := by decide +kernel
theorem dX2_init_29 : decode cX2_init 29 = .ok (.bipush 8, 2) := by decide +kernel
theorem dX2_init_31 : decode cX2_init 31 = .ok (.newarray .int, 2) := by decide +kernel
theorem dX2_init_33 : decode cX2_init 33 = .ok (.putfield 21, 3) := by decide +kernel
theorem dX2_init_36 : decode cX2_init 36 = .ok (.aload_n 0, 1) := by decide +kernel
theorem dX2_init_37 : decode cX2_init 37 = .ok (.bipush 8, 2) := by decide +kernel
theorem dX2_init_39 : decode cX2_init 39 = .ok (.newarray .int, 2) := by decide +kernel
theorem dX2_init_41 : decode cX2_init 41 = .ok (.putfield 24, 3) := by decide +kernel
theorem dX2_init_44 : decode cX2_init 44 = .ok (.aload_n 0, 1) := by decide +kernel
theorem dX2_init_45 : decode cX2_init 45 = .ok (.bipush 8, 2) := by decide +kernel
theorem dX2_init_47 : decode cX2_init 47 = .ok (.newarray .int, 2) := by decide +kernel
theorem dX2_init_49 : decode cX2_init 49 = .ok (.putfield 27, 3) := by decide +kernel
theorem dX2_init_52 : decode cX2_init 52 = .ok (.aload_n 0, 1) := by decide +kernel
theorem dX2_init_53 : decode cX2_init 53 = .ok (.bipush 8, 2) := by decide +kernel
theorem dX2_init_55 : decode cX2_init 55 = .ok (.newarray .int, 2) := by decide +kernel
theorem dX2_init_57 : decode cX2_init 57 = .ok (.putfield 30, 3) := by decide +kernel
theorem dX2_init_60 : decode cX2_init 60 = .ok (.return_, 1) := by decide +kernel
set_option maxRecDepth 20000 in
theorem ggX3_init_X4_init : GoodIn wsX3_init wsX4_init := goodIn_r _ [10, 11, 2, 3, 12, 13, 14, 15, 16, 17, 18, 19, 20, 21, 22, 23, 24, 25, 26, 27, 28, 29, 30, 31, 32, 33, 34, 35, 36, 37, 38, 39, 40, 41, 42, 43, 44, 45, 46, 47, 48, 49, 50, 51, 52, 53, 54, 55, 56, 66, 67, 68, 69, 70, 71, 60, 61, 62, 63, 64, 65, 72, 73, 74, 75, 76, 77, 78, 79, 80, 81, 82, 83, 84, 85, 86, 87, 88, 89, 90] (by decide +kernel) (by decide +kernel)
set_option maxRecDepth 20000 in
theorem gX3_init_X4_init : GoodIn wsX3_init (wsX4_init) := ggX3_init_X4_init
theorem dX3_init_0 : decode cX3_init 0 = .ok (.aload_n 0, 1) := by decide +kernel
theorem dX3_init_1 : decode cX3_init 1 = .ok (.invokespecial 3, 3) := by decide +kernel
theorem dX3_init_4 : decode cX3_init 4 = .ok (.aload_n 0, 1) := by decide +kernel
theorem dX3_init_5 : decode cX3_init 5 = .ok (.bipush 6, 2) := by decide +kernel
theorem dX3_init_7 : decode cX3_init 7 = .ok (.anewarray 9, 3) := by decide +kernel
theorem dX3_init_10 : decode cX3_init 10 = .ok (.putfield 11, 3) := by decide +kernel
theorem dX3_init_13 : decode cX3_init 13 = .ok (.iconst 0, 1) := by decide +kernel
theorem dX3_init_14 : decode cX3_init 14 = .ok (.istore_n 1, 1) := by decide +kernel
theorem dX3_init_15 : decode cX3_init 15 = .ok (.iload_n 1, 1) := by decide +kernel
theorem dX3_init_16 : decode cX3_init 16 = .ok (.aload_n 0, 1) := by decide +kernel
theorem dX3_init_17 : decode cX3_init 17 = .ok (.getfield 11, 3) := by decide +kernel
theorem dX3_init_20 : decode cX3_init 20 = .ok (.arraylength, 1) := by decide +kernel
theorem dX3_init_21 : decode cX3_init 21 = .ok (.if_icmp .ge 22, 3) := by decide +kernel
theorem dX3_init_24 : decode cX3_init 24 = .ok (.aload_n 0, 1) := by decide +kernel
theorem dX3_init_25 : decode cX3_init 25 = .ok (.getfield 11, 3) := by decide +kernel
theorem dX3_init_28 : decode cX3_init 28 = .ok (.iload_n 1, 1) := by decide +kernel
theorem dX3_init_29 : decode cX3_init 29 = .ok (.new 9, 3) := by decide +kernel
theorem dX3_init_32 : decode cX3_init 32 = .ok (.dup, 1) := by decide +kernel
theorem dX3_init_33 : decode cX3_init 33 = .ok (.invokespecial 17, 3) := by decide +kernel
theorem dX3_init_36 : decode cX3_init 36 = .ok (.aastore, 1) := by decide +kernel
theorem dX3_init_37 : decode cX3_init 37 = .ok (.iinc 1 1, 3) := by decide +kernel
theorem dX3_init_40 : decode cX3_init 40 = .ok (.goto (-25), 3) := by decide +kernel
theorem dX3_init_43 : decode cX3_init 43 = .ok (.return_, 1) := by decide +kernel
set_option maxRecDepth 20000 in
theorem ggX4_init_X5_init : GoodIn wsX4_init wsX5_init := goodIn_r _ [19, 20, 2, 3, 16, 21, 22, 23, 24, 25, 49, 50, 51, 52, 53, 54] (by decide +kernel) (by decide +kernel)
set_option maxRecDepth 20000 in
theorem gX4_init_X5_init_n11 : GoodIn wsX4_init (wsX5_init) := ggX4_init_X5_init
set_option maxRecDepth 20000 in
theorem ggX4_init_X2_init : GoodIn wsX4_init wsX2_init := goodIn_r _ [27, 28, 2, 3, 16, 29, 30, 31, 32, 33, 34, 35, 61, 62, 63, 64, 65, 66, 67, 68] (by decide +kernel) (by decide +kernel)
set_option maxRecDepth 20000 in
theorem gX4_init_X2_init_n20 : GoodIn wsX4_init (wsX2_init) := ggX4_init_X2_init
set_option maxRecDepth 20000 in
theorem ggX4_init_X1_init : GoodIn wsX4_init wsX1_init := goodIn_r _ [37, 38, 2, 3, 16, 39, 40, 41, 42, 43, 44, 45, 46, 47, 48, 69, 70, 71, 72, 73, 74, 75, 76, 77, 78, 79] (by decide +kernel) (by decide +kernel)
set_option maxRecDepth 20000 in
theorem gX4_init_X1_init_n27 : GoodIn wsX4_init (wsX1_init) := ggX4_init_X1_init
theorem dX4_init_0 : decode cX4_init 0 = .ok (.aload_n 0, 1) := by decide +kernel
theorem dX4_init_1 : decode cX4_init 1 = .ok (.invokespecial 3, 3) := by decide +kernel
theorem dX4_init_4 : decode cX4_init 4 = .ok (.aload_n 0, 1) := by decide +kernel
theorem dX4_init_5 : decode cX4_init 5 = .ok (.new 9, 3) := by decide +kernel
theorem dX4_init_8 : decode cX4_init 8 = .ok (.dup, 1) := by decide +kernel
theorem dX4_init_9 : decode cX4_init 9 = .ok (.invokespecial 11, 3) := by decide +kernel
theorem dX4_init_12 : decode cX4_init 12 = .ok (.putfield 12, 3) := by decide +kernel
theorem dX4_init_15 : decode cX4_init 15 = .ok (.aload_n 0, 1) := by decide +kernel
theorem dX4_init_16 : decode cX4_init 16 = .ok (.new 18, 3) := by decide +kernel
theorem dX4_init_19 : decode cX4_init 19 = .ok (.dup, 1) := by decide +kernel
theorem dX4_init_20 : decode cX4_init 20 = .ok (.invokespecial 20, 3) := by decide +kernel
theorem dX4_init_23 : decode cX4_init 23 = .ok (.putfield 21, 3) := by decide +kernel
theorem dX4_init_26 : decode cX4_init 26 = .ok (.aload_n 0, 1) := by decide +kernel
theorem dX4_init_27 : decode cX4_init 27 = .ok (.new 25, 3) := by decide +kernel
theorem dX4_init_30 : decode cX4_init 30 = .ok (.dup, 1) := by decide +kernel
theorem dX4_init_31 : decode cX4_init 31 = .ok (.invokespecial 27, 3) := by decide +kernel
theorem dX4_init_34 : decode cX4_init 34 = .ok (.putfield 28, 3) := by decide +kernel
theorem dX4_init_37 : decode cX4_init 37 = .ok (.aload_n 0, 1) := by decide +kernel
theorem dX4_init_38 : decode cX4_init 38 = .ok (.iconst 3, 1) := by decide +kernel
theorem dX4_init_39 : decode cX4_init 39 = .ok (.newarray .int, 2) := by decide +kernel
theorem dX4_init_41 : decode cX4_init 41 = .ok (.putfield 32, 3) := by decide +kernel
theorem dX4_init_44 : decode cX4_init 44 = .ok (.iconst 0, 1) := by decide +kernel
theorem dX4_init_45 : decode cX4_init 45 = .ok (.istore_n 1, 1) := by decide +kernel
theorem dX4_init_46 : decode cX4_init 46 = .ok (.iload_n 1, 1) := by decide +kernel
theorem dX4_init_47 : decode cX4_init 47 = .ok (.iconst 3, 1) := by decide +kernel
theorem dX4_init_48 : decode cX4_init 48 = .ok (.if_icmp .ge 20, 3) := by decide +kernel
theorem dX4_init_51 : decode cX4_init 51 = .ok (.aload_n 0, 1) := by decide +kernel
theorem dX4_init_52 : decode cX4_init 52 = .ok (.getfield 32, 3) := by decide +kernel
theorem dX4_init_55 : decode cX4_init 55 = .ok (.iload_n 1, 1) := by decide +kernel
theorem dX4_init_56 : decode cX4_init 56 = .ok (.getstatic 36, 3) := by decide +kernel
theorem dX4_init_59 : decode cX4_init 59 = .ok (.iload_n 1, 1) := by decide +kernel
theorem dX4_init_60 : decode cX4_init 60 = .ok (.iaload, 1) := by decide +kernel
theorem dX4_init_61 : decode cX4_init 61 = .ok (.iastore, 1) := by decide +kernel
theorem dX4_init_62 : decode cX4_init 62 = .ok (.iinc 1 1, 3) := by decide +kernel
theorem dX4_init_65 : decode cX4_init 65 = .ok (.goto (-19), 3) := by decide +kernel
theorem dX4_init_68 : decode cX4_init 68 = .ok (.return_, 1) := by decide +kernel
theorem dX5_init_0 : decode cX5_init 0 = .ok (.aload_n 0, 1) := by decide +kernel
theorem dX5_init_1 : decode cX5_init 1 = .ok (.invokespecial 3, 3) := by decide +kernel
theorem dX5_init_4 : decode cX5_init 4 = .ok (.aload_n 0, 1) := by decide +kernel
theorem dX5_init_5 : decode cX5_init 5 = .ok (.bipush 8, 2) := by decide +kernel
theorem dX5_init_7 : decode cX5_init 7 = .ok (.newarray .int, 2) := by decide +kernel
theorem dX5_init_9 : decode cX5_init 9 = .ok (.putfield 9, 3) := by decide +kernel
theorem dX5_init_12 : decode cX5_init 12 = .ok (.aload_n 0, 1) := by decide +kernel
theorem dX5_init_13 : decode cX5_init 13 = .ok (.bipush 8, 2) := by decide +kernel
theorem dX5_init_15 : decode cX5_init 15 = .ok (.newarray .int, 2) := by decide +kernel
theorem dX5_init_17 : decode cX5_init 17 = .ok (.putfield 15, 3) := by decide +kernel
theorem dX5_init_20 : decode cX5_init 20 = .ok (.aload_n 0, 1) := by decide +kernel
theorem dX5_init_21 : decode cX5_init 21 = .ok (.bipush 8, 2) := by decide +kernel
theorem dX5_init_23 : decode cX5_init 23 = .ok (.newarray .int, 2) := by decide +kernel
theorem dX5_init_25 : decode cX5_init 25 = .ok (.putfield 18, 3) := by decide +kernel
theorem dX5_init_28 : decode cX5_init 28 = .ok (.aload_n 0, 1) := by decide +kernel
theorem dX5_init_29 : decode cX5_init 29 = .ok (.bipush 8, 2) := by decide +kernel
theorem dX5_init_31 : decode cX5_init 31 = .ok (.newarray .int, 2) := by decide +kernel
theorem dX5_init_33 : decode cX5_init 33 = .ok (.putfield 21, 3) := by decide +kernel
theorem dX5_init_36 : decode cX5_init 36 = .ok (.aload_n 0, 1) := by decide +kernel
theorem dX5_init_37 : decode cX5_init 37 = .ok (.bipush 8, 2) := by decide +kernel
theorem dX5_init_39 : decode cX5_init 39 = .ok (.newarray .int, 2) := by decide +kernel
theorem dX5_init_41 : decode cX5_init 41 = .ok (.putfield 24, 3) := by decide +kernel
theorem dX5_init_44 : decode cX5_init 44 = .ok (.return_, 1) := by decide +kernel
set_option maxRecDepth 20000 in
theorem ggX6_init_X4_init : GoodIn wsX6_init wsX4_init := goodIn_r _ [22, 23, 2, 3, 24, 25, 26, 27, 28, 29, 30, 31, 32, 33, 34, 35, 36, 37, 38, 39, 40, 41, 42, 43, 44, 45, 46, 47, 48, 49, 50, 51, 52, 53, 54, 55, 56, 57, 58, 59, 60, 61, 62, 63, 64, 65, 66, 67, 68, 104, 105, 106, 107, 108, 109, 81, 82, 83, 84, 85, 86, 110, 111, 112, 113, 114, 115, 116, 117, 118, 119, 120, 121, 122, 123, 124, 125, 126, 127, 128] (by decide +kernel) (by decide +kernel)
set_option maxRecDepth 20000 in
theorem gX6_init_X4_init : GoodIn wsX6_init (wsX4_init) := ggX6_init_X4_init
set_option maxRecDepth 20000 in
theorem ggX6_init_X3_init : GoodIn wsX6_init wsX3_init := goodIn_r _ [71, 72, 2, 3, 73, 74, 5, 6, 75, 21, 22, 23, 24, 25, 26, 27, 28, 29, 30, 31, 32, 33, 34, 35, 36, 37, 38, 39, 40, 41, 42, 43, 44, 45, 46, 47, 48, 49, 50, 51, 52, 53, 54, 55, 56, 57, 58, 59, 60, 61, 62, 63, 64, 65, 66, 67, 68, 93, 94, 95, 81, 82, 83, 84, 85, 86, 104, 105, 106, 107, 108, 109, 110, 111, 112, 113, 114, 115, 116, 117, 118, 119, 120, 121, 122, 123, 124, 125, 126, 127, 128] (by decide +kernel) (by decide +kernel)
set_option maxRecDepth 20000 in
theorem gX6_init_X3_init : GoodIn wsX6_init (wsX3_init) := ggX6_init_X3_init
set_option maxRecDepth 20000 in
theorem ggX6_init_X0_init : GoodIn wsX6_init wsX0_init := goodIn_r _ [77, 78, 2, 3, 36, 79, 80, 96, 97, 98, 99, 100, 101, 102, 103] (by decide +kernel) (by decide +kernel)
set_option maxRecDepth 20000 in
theorem gX6_init_X0_init_n36 : GoodIn wsX6_init (wsX0_init) := ggX6_init_X0_init
theorem dX6_init_0 : decode cX6_init 0 = .ok (.aload_n 0, 1) := by decide +kernel
theorem dX6_init_1 : decode cX6_init 1 = .ok (.invokespecial 1, 3) := by decide +kernel
theorem dX6_init_4 : decode cX6_init 4 = .ok (.aload_n 0, 1) := by decide +kernel
theorem dX6_init_5 : decode cX6_init 5 = .ok (.new 7, 3) := by decide +kernel
theorem dX6_init_8 : decode cX6_init 8 = .ok (.dup, 1) := by decide +kernel
theorem dX6_init_9 : decode cX6_init 9 = .ok (.invokespecial 9, 3) := by decide +kernel
theorem dX6_init_12 : decode cX6_init 12 = .ok (.putfield 10, 3) := by decide +kernel
theorem dX6_init_15 : decode cX6_init 15 = .ok (.aload_n 0, 1) := by decide +kernel
theorem dX6_init_16 : decode cX6_init 16 = .ok (.new 7, 3) := by decide +kernel
theorem dX6_init_19 : decode cX6_init 19 = .ok (.dup, 1) := by decide +kernel
theorem dX6_init_20 : decode cX6_init 20 = .ok (.invokespecial 9, 3) := by decide +kernel
theorem dX6_init_23 : decode cX6_init 23 = .ok (.putfield 16, 3) := by decide +kernel
theorem dX6_init_26 : decode cX6_init 26 = .ok (.aload_n 0, 1) := by decide +kernel
theorem dX6_init_27 : decode cX6_init 27 = .ok (.new 19, 3) := by decide +kernel
theorem dX6_init_30 : decode cX6_init 30 = .ok (.dup, 1) := by decide +kernel
theorem dX6_init_31 : decode cX6_init 31 = .ok (.invokespecial 21, 3) := by decide +kernel
theorem dX6_init_34 : decode cX6_init 34 = .ok (.putfield 22, 3) := by decide +kernel
theorem dX6_init_37 : decode cX6_init 37 = .ok (.aload_n 0, 1) := by decide +kernel
theorem dX6_init_38 : decode cX6_init 38 = .ok (.iconst 2, 1) := by decide +kernel
theorem dX6_init_39 : decode cX6_init 39 = .ok (.anewarray 7, 3) := by decide +kernel
theorem dX6_init_42 : decode cX6_init 42 = .ok (.putfield 26, 3) := by decide +kernel
theorem dX6_init_45 : decode cX6_init 45 = .ok (.iconst 0, 1) := by decide +kernel
theorem dX6_init_46 : decode cX6_init 46 = .ok (.istore_n 1, 1) := by decide +kernel
theorem dX6_init_47 : decode cX6_init 47 = .ok (.iload_n 1, 1) := by decide +kernel
theorem dX6_init_48 : decode cX6_init 48 = .ok (.iconst 2, 1) := by decide +kernel
theorem dX6_init_49 : decode cX6_init 49 = .ok (.if_icmp .ge 22, 3) := by decide +kernel
theorem dX6_init_52 : decode cX6_init 52 = .ok (.aload_n 0, 1) := by decide +kernel
theorem dX6_init_53 : decode cX6_init 53 = .ok (.getfield 26, 3) := by decide +kernel
theorem dX6_init_56 : decode cX6_init 56 = .ok (.iload_n 1, 1) := by decide +kernel
theorem dX6_init_57 : decode cX6_init 57 = .ok (.new 7, 3) := by decide +kernel
theorem dX6_init_60 : decode cX6_init 60 = .ok (.dup, 1) := by decide +kernel
theorem dX6_init_61 : decode cX6_init 61 = .ok (.invokespecial 9, 3) := by decide +kernel
theorem dX6_init_64 : decode cX6_init 64 = .ok (.aastore, 1) := by decide +kernel
theorem dX6_init_65 : decode cX6_init 65 = .ok (.iinc 1 1, 3) := by decide +kernel
theorem dX6_init_68 : decode cX6_init 68 = .ok (.goto (-21), 3) := by decide +kernel
theorem dX6_init_71 : decode cX6_init 71 = .ok (.aload_n 0, 1) := by decide +kernel
theorem dX6_init_72 : decode cX6_init 72 = .ok (.iconst 2, 1) := by decide +kernel
theorem dX6_init_73 : decode cX6_init 73 = .ok (.newarray .boolean, 2) := by decide +kernel
theorem dX6_init_75 : decode cX6_init 75 = .ok (.putfield 30, 3) := by decide +kernel
theorem dX6_init_78 : decode cX6_init 78 = .ok (.aload_n 0, 1) := by decide +kernel
theorem dX6_init_79 : decode cX6_init 79 = .ok (.new 34, 3) := by decide +kernel
theorem dX6_init_82 : decode cX6_init 82 = .ok (.dup, 1) := by decide +kernel
theorem dX6_init_83 : decode cX6_init 83 = .ok (.invokespecial 36, 3) := by decide +kernel
theorem dX6_init_86 : decode cX6_init 86 = .ok (.putfield 37, 3) := by decide +kernel
theorem dX6_init_89 : decode cX6_init 89 = .ok (.return_, 1) := by decide +kernel
theorem dJ9_min_7cf53_0 : decode cJ9_min_7cf53 0 = .ok (.iload_n 0, 1) := by decide +kernel
theorem dJ9_min_7cf53_1 : decode cJ9_min_7cf53 1 = .ok (.iload_n 1, 1) := by decide +kernel
theorem dJ9_min_7cf53_2 : decode cJ9_min_7cf53 2 = .ok (.if_icmp .gt 7, 3) := by decide +kernel
theorem dJ9_min_7cf53_5 : decode cJ9_min_7cf53 5 = .ok (.iload_n 0, 1) := by decide +kernel
theorem dJ9_min_7cf53_6 : decode cJ9_min_7cf53 6 = .ok (.goto 4, 3) := by decide +kernel
theorem dJ9_min_7cf53_9 : decode cJ9_min_7cf53 9 = .ok (.iload_n 1, 1) := by decide +kernel
theorem dJ9_min_7cf53_10 : decode cJ9_min_7cf53 10 = .ok (.ireturn, 1) := by decide +kernel
set_option maxRecDepth 20000 in
theorem ggL_law_X6_init : GoodIn wsL_law wsX6_init := goodIn_r _ [7, 8, 9, 10, 11, 12, 13, 14, 15, 16, 17, 18, 19, 20, 21, 22, 23, 24, 25, 26, 27, 28, 29, 30, 31, 32, 33, 34, 35, 36, 37, 38, 39, 40, 41, 42, 3, 43, 44, 45, 46, 47, 48, 49, 50, 51, 52, 53, 54, 55, 56, 57, 58, 59, 60, 61, 62, 63, 64, 65, 66, 67, 68, 69, 70, 71, 72, 73, 74, 75, 76, 77, 78, 79, 80, 81, 82, 83, 84, 85, 86, 477, 478, 479, 480, 481, 482, 471, 472, 473, 474, 475, 476, 483, 484, 485, 486, 487, 488, 489, 490, 491, 492, 493, 494, 495, 496, 497, 498, 499, 500, 501, 502, 503, 504, 505, 506, 507, 508, 509, 510, 511, 512, 513, 514, 515, 516, 517, 518] (by decide +kernel) (by decide +kernel)
set_option maxRecDepth 20000 in
theorem gL_law_X6_init : GoodIn wsL_law (wsX6_init) := ggL_law_X6_init
abbrev vwCl : List vw_C := [(RX0, TX0, 8), (RX1, TX1, 11), (RX2, TX2, 8), (RX3, TX3, 3), (RX4, TX4, 6), (RX5, TX5, 6), (RX6, TX6, 6)]
/-! ===== END printed: names ===== -/

