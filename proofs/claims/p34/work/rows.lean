section
-- ===== PART A: goes FIRST, ahead of the names: the tables' words, and 'selects' of the private methods out of them =====
/-- a private method of a class that the tables say can be made, by its rows of tables_1 -/
def lw_okq (q : MethodName × Nat) : Prop := (q.1.cls ≠ "java/lang/invoke/MethodHandle" ∧ q.1.cls ≠ "java/lang/invoke/VarHandle") ∧ Cond.instantiable q.1.cls q.2 ∈ tables_1 ∧ Cond.privateMethod q.1 ∈ tables_1 ∧ Cond.instanceMethod q.1 ∈ tables_1
theorem lw_p0 : lw_okq (⟨"VacantAir", "barredAlone", "(I)I"⟩, 6) := ⟨⟨by decide +kernel, by decide +kernel⟩, List.mem_of_getElem? (i := 11) (by decide +kernel), List.mem_of_getElem? (i := 251) (by decide +kernel), List.mem_of_getElem? (i := 252) (by decide +kernel)⟩
theorem lw_p1 : lw_okq (⟨"VacantAir$State", "barredRadius", "(II)I"⟩, 6) := ⟨⟨by decide +kernel, by decide +kernel⟩, List.mem_of_getElem? (i := 19) (by decide +kernel), List.mem_of_getElem? (i := 295) (by decide +kernel), List.mem_of_getElem? (i := 296) (by decide +kernel)⟩
theorem lw_p2 : lw_okq (⟨"VacantAir", "recorded", "(I)I"⟩, 6) := ⟨⟨by decide +kernel, by decide +kernel⟩, List.mem_of_getElem? (i := 11) (by decide +kernel), List.mem_of_getElem? (i := 413) (by decide +kernel), List.mem_of_getElem? (i := 414) (by decide +kernel)⟩
theorem lw_p3 : lw_okq (⟨"VacantAir$State", "review", "()V"⟩, 6) := ⟨⟨by decide +kernel, by decide +kernel⟩, List.mem_of_getElem? (i := 19) (by decide +kernel), List.mem_of_getElem? (i := 429) (by decide +kernel), List.mem_of_getElem? (i := 430) (by decide +kernel)⟩
theorem lw_p4 : lw_okq (⟨"VacantAir$State", "refusal", "(II)I"⟩, 6) := ⟨⟨by decide +kernel, by decide +kernel⟩, List.mem_of_getElem? (i := 19) (by decide +kernel), List.mem_of_getElem? (i := 518) (by decide +kernel), List.mem_of_getElem? (i := 519) (by decide +kernel)⟩
theorem lw_p5 : lw_okq (⟨"VacantAir$State", "isAllowedOnAny", "(II)Z"⟩, 6) := ⟨⟨by decide +kernel, by decide +kernel⟩, List.mem_of_getElem? (i := 19) (by decide +kernel), List.mem_of_getElem? (i := 522) (by decide +kernel), List.mem_of_getElem? (i := 523) (by decide +kernel)⟩
theorem lw_p6 : lw_okq (⟨"VacantAir$State", "isFree", "(III)Z"⟩, 6) := ⟨⟨by decide +kernel, by decide +kernel⟩, List.mem_of_getElem? (i := 19) (by decide +kernel), List.mem_of_getElem? (i := 530) (by decide +kernel), List.mem_of_getElem? (i := 531) (by decide +kernel)⟩
theorem lw_p7 : lw_okq (⟨"VacantAir$State", "endLeases", "()V"⟩, 6) := ⟨⟨by decide +kernel, by decide +kernel⟩, List.mem_of_getElem? (i := 19) (by decide +kernel), List.mem_of_getElem? (i := 579) (by decide +kernel), List.mem_of_getElem? (i := 580) (by decide +kernel)⟩
theorem lw_p8 : lw_okq (⟨"VacantAir$State", "asksNow", "(I)Z"⟩, 6) := ⟨⟨by decide +kernel, by decide +kernel⟩, List.mem_of_getElem? (i := 19) (by decide +kernel), List.mem_of_getElem? (i := 583) (by decide +kernel), List.mem_of_getElem? (i := 584) (by decide +kernel)⟩
theorem lw_p9 : lw_okq (⟨"VacantAir$State", "hopOrStrike", "(I)I"⟩, 6) := ⟨⟨by decide +kernel, by decide +kernel⟩, List.mem_of_getElem? (i := 19) (by decide +kernel), List.mem_of_getElem? (i := 587) (by decide +kernel), List.mem_of_getElem? (i := 588) (by decide +kernel)⟩
theorem lw_p10 : lw_okq (⟨"VacantAir$State", "cutLeases", "()V"⟩, 6) := ⟨⟨by decide +kernel, by decide +kernel⟩, List.mem_of_getElem? (i := 19) (by decide +kernel), List.mem_of_getElem? (i := 591) (by decide +kernel), List.mem_of_getElem? (i := 592) (by decide +kernel)⟩
def lw_privs_1 : List (MethodName × Nat) := [(⟨"VacantAir", "barredAlone", "(I)I"⟩, 6), (⟨"VacantAir$State", "barredRadius", "(II)I"⟩, 6), (⟨"VacantAir", "recorded", "(I)I"⟩, 6), (⟨"VacantAir$State", "review", "()V"⟩, 6), (⟨"VacantAir$State", "refusal", "(II)I"⟩, 6), (⟨"VacantAir$State", "isAllowedOnAny", "(II)Z"⟩, 6), (⟨"VacantAir$State", "isFree", "(III)Z"⟩, 6), (⟨"VacantAir$State", "endLeases", "()V"⟩, 6), (⟨"VacantAir$State", "asksNow", "(I)Z"⟩, 6), (⟨"VacantAir$State", "hopOrStrike", "(I)I"⟩, 6), (⟨"VacantAir$State", "cutLeases", "()V"⟩, 6)]
theorem lw_r1 : ∀ q ∈ lw_privs_1, lw_okq q := List.forall_mem_cons.mpr ⟨lw_p0, List.forall_mem_cons.mpr ⟨lw_p1, List.forall_mem_cons.mpr ⟨lw_p2, List.forall_mem_cons.mpr ⟨lw_p3, List.forall_mem_cons.mpr ⟨lw_p4, List.forall_mem_cons.mpr ⟨lw_p5, List.forall_mem_cons.mpr ⟨lw_p6, List.forall_mem_cons.mpr ⟨lw_p7, List.forall_mem_cons.mpr ⟨lw_p8, List.forall_mem_cons.mpr ⟨lw_p9, List.forall_mem_cons.mpr ⟨lw_p10, fun _ h => absurd h List.not_mem_nil⟩⟩⟩⟩⟩⟩⟩⟩⟩⟩⟩
def lw_privs : List (MethodName × Nat) := lw_privs_1
def lw_tbl : List Cond := k2_sels lw_privs ++ tables_1
theorem lw_privs_ok : ∀ q ∈ lw_privs, lw_okq q := lw_r1
/-! ===== BEGIN words of one list among another's, by their places ===== -/
theorem goodIn_r {big : List Cond} (ws : List Cond) (ps : List Nat) (hp : ws = ps.filterMap (fun i => big[i]?)) (h : ws.all goodWord = true) : GoodIn big ws := by
  intro w hw
  have h1 := List.all_eq_true.mp h w hw
  rw [hp] at hw
  obtain ⟨i, -, hi⟩ := List.mem_filterMap.mp hw
  have hm : w ∈ big := by first | exact List.mem_of_getElem? hi | exact List.getElem?_mem hi
  exact ⟨hm, good_of_word h1⟩
theorem goodIn_app {big a b : List Cond} (ha : GoodIn big a) (hb : GoodIn big b) : GoodIn big (a ++ b) := fun w h => (List.mem_append.mp h).elim (ha w) (hb w)
theorem goodIn_ca {big a b : List Cond} {c : Cond} (ha : GoodIn big (c :: a)) (hb : GoodIn big b) : GoodIn big (c :: (a ++ b)) := fun w h => (List.mem_cons.mp h).elim (fun e => ha w (List.mem_cons.mpr (Or.inl e))) (fun h => (List.mem_append.mp h).elim (fun h => ha w (List.mem_cons.mpr (Or.inr h))) (hb w))
theorem goodIn_sub {big ws : List Cond} (hm : ∀ w ∈ ws, w ∈ big) (h : ws.all goodWord = true) : GoodIn big ws := fun w hw => ⟨hm w hw, good_of_word (List.all_eq_true.mp h w hw)⟩
/-! ===== END ===== -/

/-! ===== BEGIN printed: names, fields, word lists, decode rows ===== -/
def RX0 : String := "VacantAir$ActText"
def TX0 : u_T := fun k => match k with
  | 0 => ("VacantAir$ActText", "bytes", "[I", true)
  | 1 => ("VacantAir$ActText", "length", "I", false)
  | 2 => ("VacantAir$ActText", "place", "I", false)
  | 3 => ("VacantAir$ActText", "fault", "I", false)
  | 4 => ("VacantAir$ActText", "kind", "I", false)
  | 5 => ("VacantAir$ActText", "first", "I", false)
  | 6 => ("VacantAir$ActText", "second", "I", false)
  | _ => ("VacantAir$ActText", "third", "I", false)
def tyX0 : Nat → FieldType := fun k => match k with
  | 0 => .array .int
  | 1 => .int
  | 2 => .int
  | 3 => .int
  | 4 => .int
  | 5 => .int
  | 6 => .int
  | _ => .int
abbrev wsX00 : List Cond := u_ws RX0 TX0 8
theorem nmX0 : ∀ a, a < 8 → ∀ b, b < 8 → a ≠ b → (TX0 a).2.1 ≠ (TX0 b).2.1 := by decide +kernel
theorem tyX0_ok : ∀ k, k < 8 → parseFieldDescriptor (TX0 k).2.2.1 = some (tyX0 k) := by decide +kernel
abbrev cX0_init : ByteArray := prog_2_method_1_code
def yX0_init : MethodName := ⟨RX0, "<init>", "()V"⟩
def RX1 : String := "VacantAir$Devices"
def TX1 : u_T := fun k => match k with
  | 0 => ("VacantAir$Devices", "x", "[I", true)
  | 1 => ("VacantAir$Devices", "y", "[I", true)
  | 2 => ("VacantAir$Devices", "greatest", "[I", true)
  | 3 => ("VacantAir$Devices", "channel", "[I", true)
  | 4 => ("VacantAir$Devices", "power", "[I", true)
  | 5 => ("VacantAir$Devices", "end", "[I", true)
  | 6 => ("VacantAir$Devices", "notice", "[I", true)
  | 7 => ("VacantAir$Devices", "hops", "[I", true)
  | 8 => ("VacantAir$Devices", "struck", "[I", true)
  | 9 => ("VacantAir$Devices", "cut", "[I", true)
  | _ => ("VacantAir$Devices", "count", "I", false)
def tyX1 : Nat → FieldType := fun k => match k with
  | 0 => .array .int
  | 1 => .array .int
  | 2 => .array .int
  | 3 => .array .int
  | 4 => .array .int
  | 5 => .array .int
  | 6 => .array .int
  | 7 => .array .int
  | 8 => .array .int
  | 9 => .array .int
  | _ => .int
abbrev wsX10 : List Cond := u_ws RX1 TX1 11
theorem nmX1 : ∀ a, a < 11 → ∀ b, b < 11 → a ≠ b → (TX1 a).2.1 ≠ (TX1 b).2.1 := by decide +kernel
theorem tyX1_ok : ∀ k, k < 11 → parseFieldDescriptor (TX1 k).2.2.1 = some (tyX1 k) := by decide +kernel
abbrev cX1_init : ByteArray := prog_3_method_1_code
def yX1_init : MethodName := ⟨RX1, "<init>", "()V"⟩
abbrev cX1_has : ByteArray := prog_3_method_2_code
def yX1_has : MethodName := ⟨RX1, "has", "(I)Z"⟩
abbrev cX1_hasLease : ByteArray := prog_3_method_3_code
def yX1_hasLease : MethodName := ⟨RX1, "hasLease", "(I)Z"⟩
abbrev cX1_hasNotice : ByteArray := prog_3_method_4_code
def yX1_hasNotice : MethodName := ⟨RX1, "hasNotice", "(I)Z"⟩
abbrev cX1_putOn : ByteArray := prog_3_method_5_code
def yX1_putOn : MethodName := ⟨RX1, "putOn", "(III)V"⟩
abbrev cX1_removeLease : ByteArray := prog_3_method_6_code
def yX1_removeLease : MethodName := ⟨RX1, "removeLease", "(I)V"⟩
abbrev cX1_tell : ByteArray := prog_3_method_7_code
def yX1_tell : MethodName := ⟨RX1, "tell", "(II)I"⟩
abbrev cX1_countLeases : ByteArray := prog_3_method_8_code
def yX1_countLeases : MethodName := ⟨RX1, "countLeases", "()I"⟩
abbrev cX1_countOn : ByteArray := prog_3_method_9_code
def yX1_countOn : MethodName := ⟨RX1, "countOn", "(I)I"⟩
abbrev cX1_countNotices : ByteArray := prog_3_method_10_code
def yX1_countNotices : MethodName := ⟨RX1, "countNotices", "()I"⟩
abbrev cX1_sumOf : ByteArray := prog_3_method_11_code
def yX1_sumOf : MethodName := ⟨RX1, "sumOf", "([I)I"⟩
abbrev cX1_copyFrom : ByteArray := prog_3_method_15_code
def yX1_copyFrom : MethodName := ⟨RX1, "copyFrom", "(LVacantAir$Devices;)V"⟩
def RX2 : String := "VacantAir$Events"
def TX2 : u_T := fun k => match k with
  | 0 => ("VacantAir$Events", "x", "[I", true)
  | 1 => ("VacantAir$Events", "y", "[I", true)
  | 2 => ("VacantAir$Events", "radius", "[I", true)
  | 3 => ("VacantAir$Events", "channel", "[I", true)
  | 4 => ("VacantAir$Events", "from", "[I", true)
  | 5 => ("VacantAir$Events", "to", "[I", true)
  | 6 => ("VacantAir$Events", "cancelled", "[I", true)
  | _ => ("VacantAir$Events", "count", "I", false)
def tyX2 : Nat → FieldType := fun k => match k with
  | 0 => .array .int
  | 1 => .array .int
  | 2 => .array .int
  | 3 => .array .int
  | 4 => .array .int
  | 5 => .array .int
  | 6 => .array .int
  | _ => .int
abbrev wsX20 : List Cond := u_ws RX2 TX2 8
theorem nmX2 : ∀ a, a < 8 → ∀ b, b < 8 → a ≠ b → (TX2 a).2.1 ≠ (TX2 b).2.1 := by decide +kernel
theorem tyX2_ok : ∀ k, k < 8 → parseFieldDescriptor (TX2 k).2.2.1 = some (tyX2 k) := by decide +kernel
abbrev cX2_init : ByteArray := prog_4_method_1_code
def yX2_init : MethodName := ⟨RX2, "<init>", "()V"⟩
abbrev cX2_has : ByteArray := prog_4_method_2_code
def yX2_has : MethodName := ⟨RX2, "has", "(I)Z"⟩
abbrev cX2_isOn : ByteArray := prog_4_method_3_code
def yX2_isOn : MethodName := ⟨RX2, "isOn", "(II)Z"⟩
abbrev cX2_tell : ByteArray := prog_4_method_4_code
def yX2_tell : MethodName := ⟨RX2, "tell", "(III)I"⟩
abbrev cX2_copyFrom : ByteArray := prog_4_method_5_code
def yX2_copyFrom : MethodName := ⟨RX2, "copyFrom", "(LVacantAir$Events;)V"⟩
def RX3 : String := "VacantAir$History"
def TX3 : u_T := fun k => match k with
  | 0 => ("VacantAir$History", "ring", "[LVacantAir$State;", true)
  | 1 => ("VacantAir$History", "oldest", "I", false)
  | _ => ("VacantAir$History", "count", "I", false)
def tyX3 : Nat → FieldType := fun k => match k with
  | 0 => .array (.object "VacantAir$State")
  | 1 => .int
  | _ => .int
abbrev wsX30 : List Cond := u_ws RX3 TX3 3
theorem nmX3 : ∀ a, a < 3 → ∀ b, b < 3 → a ≠ b → (TX3 a).2.1 ≠ (TX3 b).2.1 := by decide +kernel
theorem tyX3_ok : ∀ k, k < 3 → parseFieldDescriptor (TX3 k).2.2.1 = some (tyX3 k) := by decide +kernel
abbrev cX3_init : ByteArray := prog_5_method_1_code
def yX3_init : MethodName := ⟨RX3, "<init>", "()V"⟩
abbrev cX3_note : ByteArray := prog_5_method_2_code
def yX3_note : MethodName := ⟨RX3, "note", "(LVacantAir$State;)V"⟩
abbrev cX3_keepNoted : ByteArray := prog_5_method_3_code
def yX3_keepNoted : MethodName := ⟨RX3, "keepNoted", "()V"⟩
def RX4 : String := "VacantAir$State"
def TX4 : u_T := fun k => match k with
  | 0 => ("VacantAir$State", "stations", "LVacantAir$Stations;", true)
  | 1 => ("VacantAir$State", "events", "LVacantAir$Events;", true)
  | 2 => ("VacantAir$State", "devices", "LVacantAir$Devices;", true)
  | 3 => ("VacantAir$State", "settings", "[I", true)
  | 4 => ("VacantAir$State", "hour", "I", false)
  | _ => ("VacantAir$State", "reason", "I", false)
def tyX4 : Nat → FieldType := fun k => match k with
  | 0 => .object "VacantAir$Stations"
  | 1 => .object "VacantAir$Events"
  | 2 => .object "VacantAir$Devices"
  | 3 => .array .int
  | 4 => .int
  | _ => .int
abbrev wsX40 : List Cond := u_ws RX4 TX4 6
theorem nmX4 : ∀ a, a < 6 → ∀ b, b < 6 → a ≠ b → (TX4 a).2.1 ≠ (TX4 b).2.1 := by decide +kernel
theorem tyX4_ok : ∀ k, k < 6 → parseFieldDescriptor (TX4 k).2.2.1 = some (tyX4 k) := by decide +kernel
abbrev cX4_init : ByteArray := prog_6_method_1_code
def yX4_init : MethodName := ⟨RX4, "<init>", "()V"⟩
abbrev cX4_copyFrom : ByteArray := prog_6_method_2_code
def yX4_copyFrom : MethodName := ⟨RX4, "copyFrom", "(LVacantAir$State;)V"⟩
abbrev cX4_putStation : ByteArray := prog_6_method_3_code
def yX4_putStation : MethodName := ⟨RX4, "putStation", "(IIII)I"⟩
abbrev cX4_putEvent : ByteArray := prog_6_method_4_code
def yX4_putEvent : MethodName := ⟨RX4, "putEvent", "(IIIIII)I"⟩
abbrev cX4_putDevice : ByteArray := prog_6_method_5_code
def yX4_putDevice : MethodName := ⟨RX4, "putDevice", "(III)I"⟩
abbrev cX4_change : ByteArray := prog_6_method_6_code
def yX4_change : MethodName := ⟨RX4, "change", "(II)I"⟩
abbrev cX4_turnStation : ByteArray := prog_6_method_7_code
def yX4_turnStation : MethodName := ⟨RX4, "turnStation", "(II)I"⟩
abbrev cX4_callOff : ByteArray := prog_6_method_8_code
def yX4_callOff : MethodName := ⟨RX4, "callOff", "(I)I"⟩
abbrev cX4_makeLease : ByteArray := prog_6_method_9_code
def yX4_makeLease : MethodName := ⟨RX4, "makeLease", "(III)I"⟩
abbrev cX4_prolongLease : ByteArray := prog_6_method_10_code
def yX4_prolongLease : MethodName := ⟨RX4, "prolongLease", "(II)I"⟩
abbrev cX4_dropLease : ByteArray := prog_6_method_11_code
def yX4_dropLease : MethodName := ⟨RX4, "dropLease", "(I)I"⟩
abbrev cX4_passHours : ByteArray := prog_6_method_12_code
def yX4_passHours : MethodName := ⟨RX4, "passHours", "(I)I"⟩
abbrev cX4_passOneHour : ByteArray := prog_6_method_13_code
def yX4_passOneHour : MethodName := ⟨RX4, "passOneHour", "()I"⟩
abbrev cX4_endLeases : ByteArray := prog_6_method_14_code
def yX4_endLeases : MethodName := ⟨RX4, "endLeases", "()V"⟩
abbrev cX4_review : ByteArray := prog_6_method_15_code
def yX4_review : MethodName := ⟨RX4, "review", "()V"⟩
abbrev cX4_cutLeases : ByteArray := prog_6_method_16_code
def yX4_cutLeases : MethodName := ⟨RX4, "cutLeases", "()V"⟩
abbrev cX4_asksNow : ByteArray := prog_6_method_17_code
def yX4_asksNow : MethodName := ⟨RX4, "asksNow", "(I)Z"⟩
abbrev cX4_nextAsking : ByteArray := prog_6_method_18_code
def yX4_nextAsking : MethodName := ⟨RX4, "nextAsking", "(I)I"⟩
abbrev cX4_hopOrStrike : ByteArray := prog_6_method_19_code
def yX4_hopOrStrike : MethodName := ⟨RX4, "hopOrStrike", "(I)I"⟩
abbrev cX4_refusal : ByteArray := prog_6_method_20_code
def yX4_refusal : MethodName := ⟨RX4, "refusal", "(II)I"⟩
abbrev cX4_isAllowedOnAny : ByteArray := prog_6_method_21_code
def yX4_isAllowedOnAny : MethodName := ⟨RX4, "isAllowedOnAny", "(II)Z"⟩
abbrev cX4_findOffer : ByteArray := prog_6_method_22_code
def yX4_findOffer : MethodName := ⟨RX4, "findOffer", "(II)I"⟩
abbrev cX4_isFree : ByteArray := prog_6_method_23_code
def yX4_isFree : MethodName := ⟨RX4, "isFree", "(III)Z"⟩
abbrev cX4_leaseIsAllowed : ByteArray := prog_6_method_24_code
def yX4_leaseIsAllowed : MethodName := ⟨RX4, "leaseIsAllowed", "(I)Z"⟩
abbrev cX4_isAllowed : ByteArray := prog_6_method_25_code
def yX4_isAllowed : MethodName := ⟨RX4, "isAllowed", "(IIII)Z"⟩
abbrev cX4_barredRadius : ByteArray := prog_6_method_26_code
def yX4_barredRadius : MethodName := ⟨RX4, "barredRadius", "(II)I"⟩
abbrev cX4_tellTotal : ByteArray := prog_6_method_27_code
def yX4_tellTotal : MethodName := ⟨RX4, "tellTotal", "(I)I"⟩
def RX5 : String := "VacantAir$Stations"
def TX5 : u_T := fun k => match k with
  | 0 => ("VacantAir$Stations", "x", "[I", true)
  | 1 => ("VacantAir$Stations", "y", "[I", true)
  | 2 => ("VacantAir$Stations", "channel", "[I", true)
  | 3 => ("VacantAir$Stations", "powerClass", "[I", true)
  | 4 => ("VacantAir$Stations", "awake", "[I", true)
  | _ => ("VacantAir$Stations", "count", "I", false)
def tyX5 : Nat → FieldType := fun k => match k with
  | 0 => .array .int
  | 1 => .array .int
  | 2 => .array .int
  | 3 => .array .int
  | 4 => .array .int
  | _ => .int
abbrev wsX50 : List Cond := u_ws RX5 TX5 6
theorem nmX5 : ∀ a, a < 6 → ∀ b, b < 6 → a ≠ b → (TX5 a).2.1 ≠ (TX5 b).2.1 := by decide +kernel
theorem tyX5_ok : ∀ k, k < 6 → parseFieldDescriptor (TX5 k).2.2.1 = some (tyX5 k) := by decide +kernel
abbrev cX5_init : ByteArray := prog_7_method_1_code
def yX5_init : MethodName := ⟨RX5, "<init>", "()V"⟩
abbrev cX5_has : ByteArray := prog_7_method_2_code
def yX5_has : MethodName := ⟨RX5, "has", "(I)Z"⟩
abbrev cX5_tell : ByteArray := prog_7_method_3_code
def yX5_tell : MethodName := ⟨RX5, "tell", "(II)I"⟩
abbrev cX5_countAwake : ByteArray := prog_7_method_4_code
def yX5_countAwake : MethodName := ⟨RX5, "countAwake", "()I"⟩
abbrev cX5_copyFrom : ByteArray := prog_7_method_5_code
def yX5_copyFrom : MethodName := ⟨RX5, "copyFrom", "(LVacantAir$Stations;)V"⟩
def RX6 : String := "VacantAir"
def TX6 : u_T := fun k => match k with
  | 0 => ("VacantAir", "present", "LVacantAir$State;", true)
  | 1 => ("VacantAir", "trial", "LVacantAir$State;", true)
  | 2 => ("VacantAir", "history", "LVacantAir$History;", true)
  | 3 => ("VacantAir", "slots", "[LVacantAir$State;", true)
  | 4 => ("VacantAir", "slotHolds", "[Z", true)
  | _ => ("VacantAir", "text", "LVacantAir$ActText;", true)
def tyX6 : Nat → FieldType := fun k => match k with
  | 0 => .object "VacantAir$State"
  | 1 => .object "VacantAir$State"
  | 2 => .object "VacantAir$History"
  | 3 => .array (.object "VacantAir$State")
  | 4 => .array .boolean
  | _ => .object "VacantAir$ActText"
abbrev wsX60 : List Cond := u_ws RX6 TX6 6
theorem nmX6 : ∀ a, a < 6 → ∀ b, b < 6 → a ≠ b → (TX6 a).2.1 ≠ (TX6 b).2.1 := by decide +kernel
theorem tyX6_ok : ∀ k, k < 6 → parseFieldDescriptor (TX6 k).2.2.1 = some (tyX6 k) := by decide +kernel
abbrev cX6_init : ByteArray := prog_1_method_1_code
def yX6_init : MethodName := ⟨RX6, "<init>", "()V"⟩
abbrev cX6_addStation : ByteArray := prog_1_method_2_code
def yX6_addStation : MethodName := ⟨RX6, "addStation", "(IIII)I"⟩
abbrev cX6_addEvent : ByteArray := prog_1_method_3_code
def yX6_addEvent : MethodName := ⟨RX6, "addEvent", "(IIIIII)I"⟩
abbrev cX6_addDevice : ByteArray := prog_1_method_4_code
def yX6_addDevice : MethodName := ⟨RX6, "addDevice", "(III)I"⟩
abbrev cX6_set : ByteArray := prog_1_method_5_code
def yX6_set : MethodName := ⟨RX6, "set", "(II)I"⟩
abbrev cX6_wake : ByteArray := prog_1_method_6_code
def yX6_wake : MethodName := ⟨RX6, "wake", "(I)I"⟩
abbrev cX6_sleep : ByteArray := prog_1_method_7_code
def yX6_sleep : MethodName := ⟨RX6, "sleep", "(I)I"⟩
abbrev cX6_cancel : ByteArray := prog_1_method_8_code
def yX6_cancel : MethodName := ⟨RX6, "cancel", "(I)I"⟩
abbrev cX6_lease : ByteArray := prog_1_method_9_code
def yX6_lease : MethodName := ⟨RX6, "lease", "(III)I"⟩
abbrev cX6_renew : ByteArray := prog_1_method_10_code
def yX6_renew : MethodName := ⟨RX6, "renew", "(II)I"⟩
abbrev cX6_giveBack : ByteArray := prog_1_method_11_code
def yX6_giveBack : MethodName := ⟨RX6, "giveBack", "(I)I"⟩
abbrev cX6_pass : ByteArray := prog_1_method_12_code
def yX6_pass : MethodName := ⟨RX6, "pass", "(I)I"⟩
abbrev cX6_station : ByteArray := prog_1_method_20_code
def yX6_station : MethodName := ⟨RX6, "station", "(II)I"⟩
abbrev cX6_event : ByteArray := prog_1_method_21_code
def yX6_event : MethodName := ⟨RX6, "event", "(II)I"⟩
abbrev cX6_device : ByteArray := prog_1_method_22_code
def yX6_device : MethodName := ⟨RX6, "device", "(II)I"⟩
abbrev cX6_leases : ByteArray := prog_1_method_26_code
def yX6_leases : MethodName := ⟨RX6, "leases", "(I)I"⟩
abbrev cX6_total : ByteArray := prog_1_method_27_code
def yX6_total : MethodName := ⟨RX6, "total", "(I)I"⟩
abbrev cX6_recorded : ByteArray := prog_1_method_33_code
def yX6_recorded : MethodName := ⟨RX6, "recorded", "(I)I"⟩
abbrev cX6_barredAlone : ByteArray := prog_1_method_34_code
def yX6_barredAlone : MethodName := ⟨RX6, "barredAlone", "(I)I"⟩
abbrev cX6_isOutside : ByteArray := prog_1_method_35_code
def yX6_isOutside : MethodName := ⟨RX6, "isOutside", "(III)Z"⟩
abbrev cX6_isNoPlace : ByteArray := prog_1_method_36_code
def yX6_isNoPlace : MethodName := ⟨RX6, "isNoPlace", "(II)Z"⟩
abbrev cX6_isWithin : ByteArray := prog_1_method_37_code
def yX6_isWithin : MethodName := ⟨RX6, "isWithin", "(III)Z"⟩
abbrev cX6_copyRow : ByteArray := prog_1_method_38_code
def yX6_copyRow : MethodName := ⟨RX6, "copyRow", "([I[I)V"⟩
def RX7 : String := "VacantAirModel"
def TX7 : u_T := fun k => match k with
  | _ => ("", "", "", false)
def tyX7 : Nat → FieldType := fun k => match k with
  | _ => .int
abbrev wsX70 : List Cond := u_ws RX7 TX7 0
theorem nmX7 : ∀ a, a < 0 → ∀ b, b < 0 → a ≠ b → (TX7 a).2.1 ≠ (TX7 b).2.1 := by decide +kernel
theorem tyX7_ok : ∀ k, k < 0 → parseFieldDescriptor (TX7 k).2.2.1 = some (tyX7 k) := by decide +kernel
def RJ9 : String := "java/lang/Math"
def TJ9 : u_T := fun k => match k with
  | _ => ("", "", "", false)
def tyJ9 : Nat → FieldType := fun k => match k with
  | _ => .int
abbrev wsJ90 : List Cond := u_ws RJ9 TJ9 0
theorem nmJ9 : ∀ a, a < 0 → ∀ b, b < 0 → a ≠ b → (TJ9 a).2.1 ≠ (TJ9 b).2.1 := by decide +kernel
theorem tyJ9_ok : ∀ k, k < 0 → parseFieldDescriptor (TJ9 k).2.2.1 = some (tyJ9 k) := by decide +kernel
abbrev cJ9_min_7cf53 : ByteArray := prog_10_method_69_code
def yJ9_min_7cf53 : MethodName := ⟨RJ9, "min", "(II)I"⟩
def RJ10 : String := "java/lang/System"
def TJ10 : u_T := fun k => match k with
  | _ => ("", "", "", false)
def tyJ10 : Nat → FieldType := fun k => match k with
  | _ => .int
abbrev wsJ100 : List Cond := u_ws RJ10 TJ10 0
theorem nmJ10 : ∀ a, a < 0 → ∀ b, b < 0 → a ≠ b → (TJ10 a).2.1 ≠ (TJ10 b).2.1 := by decide +kernel
theorem tyJ10_ok : ∀ k, k < 0 → parseFieldDescriptor (TJ10 k).2.2.1 = some (tyJ10 k) := by decide +kernel
def RL : String := "VacantAirLaw"
abbrev cL_cell : ByteArray := method_2_code
def yL_cell : MethodName := ⟨RL, "cell", "([II)I"⟩
abbrev cL_low : ByteArray := method_3_code
def yL_low : MethodName := ⟨RL, "low", "(II)I"⟩
abbrev cL_reach : ByteArray := method_4_code
def yL_reach : MethodName := ⟨RL, "reach", "(I)I"⟩
abbrev cL_radius : ByteArray := method_5_code
def yL_radius : MethodName := ⟨RL, "radius", "(I)I"⟩
abbrev cL_near : ByteArray := method_6_code
def yL_near : MethodName := ⟨RL, "near", "(IIIII)Z"⟩
abbrev cL_allowed : ByteArray := method_7_code
def yL_allowed : MethodName := ⟨RL, "allowed", "([I[I[IIIIII)Z"⟩
abbrev cL_may : ByteArray := method_8_code
def yL_may : MethodName := ⟨RL, "may", "([I[I[I[IIII)Z"⟩
abbrev cL_offer : ByteArray := method_9_code
def yL_offer : MethodName := ⟨RL, "offer", "([I[I[I[I[III)I"⟩
abbrev cL_review : ByteArray := method_10_code
def yL_review : MethodName := ⟨RL, "review", "([I[I[I[I[I)V"⟩
abbrev cL_ends : ByteArray := method_11_code
def yL_ends : MethodName := ⟨RL, "ends", "([I[II)V"⟩
abbrev cL_notices : ByteArray := method_12_code
def yL_notices : MethodName := ⟨RL, "notices", "([I[I)I"⟩
abbrev cL_leases : ByteArray := method_13_code
def yL_leases : MethodName := ⟨RL, "leases", "([I[I)I"⟩
abbrev cL_hour : ByteArray := method_14_code
def yL_hour : MethodName := ⟨RL, "hour", "([I[I[I[I[I[I)I"⟩
abbrev cL_adds : ByteArray := method_15_code
def yL_adds : MethodName := ⟨RL, "adds", "(LVacantAir;[I[I[I[I[I[III)Z"⟩
abbrev cL_turns : ByteArray := method_16_code
def yL_turns : MethodName := ⟨RL, "turns", "(LVacantAir;[I[I[I[I[III)Z"⟩
abbrev cL_leased : ByteArray := method_17_code
def yL_leased : MethodName := ⟨RL, "leased", "(LVacantAir;[I[I[I[I[III)Z"⟩
abbrev cL_acts : ByteArray := method_18_code
def yL_acts : MethodName := ⟨RL, "acts", "(LVacantAir;[I[I[I[I[I[II)Z"⟩
abbrev cL_isSo : ByteArray := method_19_code
def yL_isSo : MethodName := ⟨RL, "isSo", "(LVacantAir;[I[I[I[I[I[I)Z"⟩
abbrev cL_law : ByteArray := code
def yL_law : MethodName := ⟨RL, "law", "([I)Z"⟩
def wsX0_init : List Cond := .code yX0_init cX0_init 1 none :: ([.methodLink RX0 3 objectInit, .instanceMethod objectInit, .code objectInit ⟨#[0xb1]⟩ 1 none, .arrayClass .int, .fieldLink RX0 9 "VacantAir$ActText" "bytes" "[I", .fieldLink RX0 15 "VacantAir$ActText" "fault" "I"] ++ wsX00)
def wsX1_init : List Cond := .code yX1_init cX1_init 1 none :: ([.methodLink RX1 3 objectInit, .instanceMethod objectInit, .code objectInit ⟨#[0xb1]⟩ 1 none, .arrayClass .int, .fieldLink RX1 9 "VacantAir$Devices" "x" "[I", .fieldLink RX1 15 "VacantAir$Devices" "y" "[I", .fieldLink RX1 18 "VacantAir$Devices" "greatest" "[I", .fieldLink RX1 21 "VacantAir$Devices" "channel" "[I", .fieldLink RX1 24 "VacantAir$Devices" "power" "[I", .fieldLink RX1 27 "VacantAir$Devices" "end" "[I", .fieldLink RX1 30 "VacantAir$Devices" "notice" "[I", .fieldLink RX1 33 "VacantAir$Devices" "hops" "[I", .fieldLink RX1 36 "VacantAir$Devices" "struck" "[I", .fieldLink RX1 39 "VacantAir$Devices" "cut" "[I"] ++ wsX10)
def wsX2_init : List Cond := .code yX2_init cX2_init 1 none :: ([.methodLink RX2 3 objectInit, .instanceMethod objectInit, .code objectInit ⟨#[0xb1]⟩ 1 none, .arrayClass .int, .fieldLink RX2 9 "VacantAir$Events" "x" "[I", .fieldLink RX2 15 "VacantAir$Events" "y" "[I", .fieldLink RX2 18 "VacantAir$Events" "radius" "[I", .fieldLink RX2 21 "VacantAir$Events" "channel" "[I", .fieldLink RX2 24 "VacantAir$Events" "from" "[I", .fieldLink RX2 27 "VacantAir$Events" "to" "[I", .fieldLink RX2 30 "VacantAir$Events" "cancelled" "[I"] ++ wsX20)
def wsX5_init : List Cond := .code yX5_init cX5_init 1 none :: ([.methodLink RX5 3 objectInit, .instanceMethod objectInit, .code objectInit ⟨#[0xb1]⟩ 1 none, .arrayClass .int, .fieldLink RX5 9 "VacantAir$Stations" "x" "[I", .fieldLink RX5 15 "VacantAir$Stations" "y" "[I", .fieldLink RX5 18 "VacantAir$Stations" "channel" "[I", .fieldLink RX5 21 "VacantAir$Stations" "powerClass" "[I", .fieldLink RX5 24 "VacantAir$Stations" "awake" "[I"] ++ wsX50)
def wsX4_init_r1 : List Cond := [Cond.methodLink RX4 3 objectInit, Cond.instanceMethod objectInit, Cond.code objectInit ⟨#[0xb1]⟩ 1 none, Cond.classLink RX4 9 RX5, Cond.instantiable RX5 6, Cond.initialized RX5, Cond.fieldLink RX4 12 "VacantAir$State" "stations" "LVacantAir$Stations;", Cond.classLink RX4 18 RX2, Cond.instantiable RX2 8, Cond.initialized RX2, Cond.fieldLink RX4 21 "VacantAir$State" "events" "LVacantAir$Events;", Cond.classLink RX4 25 RX1, Cond.instantiable RX1 11, Cond.initialized RX1, Cond.fieldLink RX4 28 "VacantAir$State" "devices" "LVacantAir$Devices;", Cond.arrayClass .int, Cond.fieldLink RX4 32 "VacantAir$State" "settings" "[I", Cond.instanceMethod yX5_init, Cond.code yX5_init cX5_init 1 none, Cond.methodLink RX5 3 objectInit, Cond.fieldLink RX5 9 "VacantAir$Stations" "x" "[I", Cond.fieldLink RX5 15 "VacantAir$Stations" "y" "[I", Cond.fieldLink RX5 18 "VacantAir$Stations" "channel" "[I", Cond.fieldLink RX5 21 "VacantAir$Stations" "powerClass" "[I"]
def wsX4_init_r2 : List Cond := [Cond.fieldLink RX5 24 "VacantAir$Stations" "awake" "[I", Cond.instanceMethod yX2_init, Cond.code yX2_init cX2_init 1 none, Cond.methodLink RX2 3 objectInit, Cond.fieldLink RX2 9 "VacantAir$Events" "x" "[I", Cond.fieldLink RX2 15 "VacantAir$Events" "y" "[I", Cond.fieldLink RX2 18 "VacantAir$Events" "radius" "[I", Cond.fieldLink RX2 21 "VacantAir$Events" "channel" "[I", Cond.fieldLink RX2 24 "VacantAir$Events" "from" "[I", Cond.fieldLink RX2 27 "VacantAir$Events" "to" "[I", Cond.fieldLink RX2 30 "VacantAir$Events" "cancelled" "[I", Cond.instanceMethod yX1_init, Cond.code yX1_init cX1_init 1 none, Cond.methodLink RX1 3 objectInit, Cond.fieldLink RX1 9 "VacantAir$Devices" "x" "[I", Cond.fieldLink RX1 15 "VacantAir$Devices" "y" "[I", Cond.fieldLink RX1 18 "VacantAir$Devices" "greatest" "[I", Cond.fieldLink RX1 21 "VacantAir$Devices" "channel" "[I", Cond.fieldLink RX1 24 "VacantAir$Devices" "power" "[I", Cond.fieldLink RX1 27 "VacantAir$Devices" "end" "[I", Cond.fieldLink RX1 30 "VacantAir$Devices" "notice" "[I", Cond.fieldLink RX1 33 "VacantAir$Devices" "hops" "[I", Cond.fieldLink RX1 36 "VacantAir$Devices" "struck" "[I", Cond.fieldLink RX1 39 "VacantAir$Devices" "cut" "[I"]
def wsX4_init : List Cond := .code yX4_init cX4_init 2 none :: ((wsX4_init_r1 ++ wsX4_init_r2) ++ wsX50 ++ wsX40 ++ wsX20 ++ wsX10)
def wsX3_init_r1 : List Cond := [Cond.methodLink RX3 3 objectInit, Cond.instanceMethod objectInit, Cond.code objectInit ⟨#[0xb1]⟩ 1 none, Cond.classLink RX3 9 RX4, Cond.fieldLink RX3 11 "VacantAir$History" "ring" "[LVacantAir$State;", Cond.instantiable RX4 6, Cond.initialized RX4, Cond.methodLink RX3 17 yX4_init, Cond.instanceMethod yX4_init, Cond.code yX4_init cX4_init 2 none, Cond.methodLink RX4 3 objectInit, Cond.classLink RX4 9 RX5, Cond.instantiable RX5 6, Cond.initialized RX5, Cond.fieldLink RX4 12 "VacantAir$State" "stations" "LVacantAir$Stations;", Cond.classLink RX4 18 RX2, Cond.instantiable RX2 8, Cond.initialized RX2, Cond.fieldLink RX4 21 "VacantAir$State" "events" "LVacantAir$Events;", Cond.classLink RX4 25 RX1, Cond.instantiable RX1 11, Cond.initialized RX1, Cond.fieldLink RX4 28 "VacantAir$State" "devices" "LVacantAir$Devices;", Cond.arrayClass .int]
def wsX3_init_r2 : List Cond := [Cond.fieldLink RX4 32 "VacantAir$State" "settings" "[I", Cond.instanceMethod yX5_init, Cond.code yX5_init cX5_init 1 none, Cond.methodLink RX5 3 objectInit, Cond.fieldLink RX5 9 "VacantAir$Stations" "x" "[I", Cond.fieldLink RX5 15 "VacantAir$Stations" "y" "[I", Cond.fieldLink RX5 18 "VacantAir$Stations" "channel" "[I", Cond.fieldLink RX5 21 "VacantAir$Stations" "powerClass" "[I", Cond.fieldLink RX5 24 "VacantAir$Stations" "awake" "[I", Cond.instanceMethod yX2_init, Cond.code yX2_init cX2_init 1 none, Cond.methodLink RX2 3 objectInit, Cond.fieldLink RX2 9 "VacantAir$Events" "x" "[I", Cond.fieldLink RX2 15 "VacantAir$Events" "y" "[I", Cond.fieldLink RX2 18 "VacantAir$Events" "radius" "[I", Cond.fieldLink RX2 21 "VacantAir$Events" "channel" "[I", Cond.fieldLink RX2 24 "VacantAir$Events" "from" "[I", Cond.fieldLink RX2 27 "VacantAir$Events" "to" "[I", Cond.fieldLink RX2 30 "VacantAir$Events" "cancelled" "[I", Cond.instanceMethod yX1_init, Cond.code yX1_init cX1_init 1 none, Cond.methodLink RX1 3 objectInit, Cond.fieldLink RX1 9 "VacantAir$Devices" "x" "[I", Cond.fieldLink RX1 15 "VacantAir$Devices" "y" "[I"]
def wsX3_init_r3 : List Cond := [Cond.fieldLink RX1 18 "VacantAir$Devices" "greatest" "[I", Cond.fieldLink RX1 21 "VacantAir$Devices" "channel" "[I", Cond.fieldLink RX1 24 "VacantAir$Devices" "power" "[I", Cond.fieldLink RX1 27 "VacantAir$Devices" "end" "[I", Cond.fieldLink RX1 30 "VacantAir$Devices" "notice" "[I", Cond.fieldLink RX1 33 "VacantAir$Devices" "hops" "[I", Cond.fieldLink RX1 36 "VacantAir$Devices" "struck" "[I", Cond.fieldLink RX1 39 "VacantAir$Devices" "cut" "[I"]
def wsX3_init : List Cond := .code yX3_init cX3_init 2 none :: ((wsX3_init_r1 ++ (wsX3_init_r2 ++ wsX3_init_r3)) ++ wsX30 ++ wsX40 ++ wsX50 ++ wsX20 ++ wsX10)
def wsX6_init_r1 : List Cond := [Cond.methodLink RX6 1 objectInit, Cond.instanceMethod objectInit, Cond.code objectInit ⟨#[0xb1]⟩ 1 none, Cond.classLink RX6 7 RX4, Cond.instantiable RX4 6, Cond.initialized RX4, Cond.fieldLink RX6 10 "VacantAir" "present" "LVacantAir$State;", Cond.fieldLink RX6 16 "VacantAir" "trial" "LVacantAir$State;", Cond.classLink RX6 19 RX3, Cond.instantiable RX3 3, Cond.initialized RX3, Cond.fieldLink RX6 22 "VacantAir" "history" "LVacantAir$History;", Cond.fieldLink RX6 26 "VacantAir" "slots" "[LVacantAir$State;", Cond.arrayClass .boolean, Cond.fieldLink RX6 30 "VacantAir" "slotHolds" "[Z", Cond.classLink RX6 34 RX0, Cond.instantiable RX0 8, Cond.initialized RX0, Cond.fieldLink RX6 37 "VacantAir" "text" "LVacantAir$ActText;", Cond.methodLink RX6 9 yX4_init, Cond.instanceMethod yX4_init, Cond.code yX4_init cX4_init 2 none, Cond.methodLink RX4 3 objectInit, Cond.classLink RX4 9 RX5]
def wsX6_init_r2 : List Cond := [Cond.instantiable RX5 6, Cond.initialized RX5, Cond.fieldLink RX4 12 "VacantAir$State" "stations" "LVacantAir$Stations;", Cond.classLink RX4 18 RX2, Cond.instantiable RX2 8, Cond.initialized RX2, Cond.fieldLink RX4 21 "VacantAir$State" "events" "LVacantAir$Events;", Cond.classLink RX4 25 RX1, Cond.instantiable RX1 11, Cond.initialized RX1, Cond.fieldLink RX4 28 "VacantAir$State" "devices" "LVacantAir$Devices;", Cond.arrayClass .int, Cond.fieldLink RX4 32 "VacantAir$State" "settings" "[I", Cond.instanceMethod yX5_init, Cond.code yX5_init cX5_init 1 none, Cond.methodLink RX5 3 objectInit, Cond.fieldLink RX5 9 "VacantAir$Stations" "x" "[I", Cond.fieldLink RX5 15 "VacantAir$Stations" "y" "[I", Cond.fieldLink RX5 18 "VacantAir$Stations" "channel" "[I", Cond.fieldLink RX5 21 "VacantAir$Stations" "powerClass" "[I", Cond.fieldLink RX5 24 "VacantAir$Stations" "awake" "[I", Cond.instanceMethod yX2_init, Cond.code yX2_init cX2_init 1 none, Cond.methodLink RX2 3 objectInit]
def wsX6_init_r3 : List Cond := [Cond.fieldLink RX2 9 "VacantAir$Events" "x" "[I", Cond.fieldLink RX2 15 "VacantAir$Events" "y" "[I", Cond.fieldLink RX2 18 "VacantAir$Events" "radius" "[I", Cond.fieldLink RX2 21 "VacantAir$Events" "channel" "[I", Cond.fieldLink RX2 24 "VacantAir$Events" "from" "[I", Cond.fieldLink RX2 27 "VacantAir$Events" "to" "[I", Cond.fieldLink RX2 30 "VacantAir$Events" "cancelled" "[I", Cond.instanceMethod yX1_init, Cond.code yX1_init cX1_init 1 none, Cond.methodLink RX1 3 objectInit, Cond.fieldLink RX1 9 "VacantAir$Devices" "x" "[I", Cond.fieldLink RX1 15 "VacantAir$Devices" "y" "[I", Cond.fieldLink RX1 18 "VacantAir$Devices" "greatest" "[I", Cond.fieldLink RX1 21 "VacantAir$Devices" "channel" "[I", Cond.fieldLink RX1 24 "VacantAir$Devices" "power" "[I", Cond.fieldLink RX1 27 "VacantAir$Devices" "end" "[I", Cond.fieldLink RX1 30 "VacantAir$Devices" "notice" "[I", Cond.fieldLink RX1 33 "VacantAir$Devices" "hops" "[I", Cond.fieldLink RX1 36 "VacantAir$Devices" "struck" "[I", Cond.fieldLink RX1 39 "VacantAir$Devices" "cut" "[I", Cond.methodLink RX6 21 yX3_init, Cond.instanceMethod yX3_init, Cond.code yX3_init cX3_init 2 none, Cond.methodLink RX3 3 objectInit]
def wsX6_init_r4 : List Cond := [Cond.classLink RX3 9 RX4, Cond.fieldLink RX3 11 "VacantAir$History" "ring" "[LVacantAir$State;", Cond.methodLink RX3 17 yX4_init, Cond.instanceMethod yX0_init, Cond.code yX0_init cX0_init 1 none, Cond.methodLink RX0 3 objectInit, Cond.fieldLink RX0 9 "VacantAir$ActText" "bytes" "[I", Cond.fieldLink RX0 15 "VacantAir$ActText" "fault" "I"]
def wsX6_init : List Cond := .code yX6_init cX6_init 2 none :: ((wsX6_init_r1 ++ (wsX6_init_r2 ++ (wsX6_init_r3 ++ wsX6_init_r4))) ++ wsX40 ++ wsX60 ++ wsX30 ++ wsX00 ++ wsX50 ++ wsX20 ++ wsX10)
def wsJ9_min_7cf53 : List Cond := .code yJ9_min_7cf53 cJ9_min_7cf53 2 (some .int) :: ([])
def wsL_cell : List Cond := .code yL_cell cL_cell 2 (some .int) :: ([.constant RL 7 (40503)])
def wsL_low : List Cond := .code yL_low cL_low 2 (some .int) :: ([.constant RL 8 (2147483647)])
def wsL_reach : List Cond := .code yL_reach cL_reach 1 (some .int) :: ([])
def wsL_radius : List Cond := .code yL_radius cL_radius 1 (some .int) :: ([])
def wsL_near : List Cond := .code yL_near cL_near 7 (some .boolean) :: ([])
def wsL_allowed : List Cond := .code yL_allowed cL_allowed 11 (some .boolean) :: ([.methodLink RL 9 yL_radius, .static yL_radius, .initialized RL, .code yL_radius cL_radius 1 (some .int), .methodLink RL 15 yL_reach, .static yL_reach, .code yL_reach cL_reach 1 (some .int), .methodLink RL 18 yL_near, .static yL_near, .code yL_near cL_near 7 (some .boolean)])
def wsL_may : List Cond := .code yL_may cL_may 7 (some .boolean) :: ([.methodLink RL 22 yL_allowed, .static yL_allowed, .initialized RL, .code yL_allowed cL_allowed 11 (some .boolean), .methodLink RL 9 yL_radius, .static yL_radius, .code yL_radius cL_radius 1 (some .int), .methodLink RL 15 yL_reach, .static yL_reach, .code yL_reach cL_reach 1 (some .int), .methodLink RL 18 yL_near, .static yL_near, .code yL_near cL_near 7 (some .boolean)])
def wsL_offer : List Cond := .code yL_offer cL_offer 13 (some .int) :: ([.methodLink RL 26 yL_may, .static yL_may, .initialized RL, .code yL_may cL_may 7 (some .boolean), .methodLink RL 22 yL_allowed, .static yL_allowed, .code yL_allowed cL_allowed 11 (some .boolean), .methodLink RL 9 yL_radius, .static yL_radius, .code yL_radius cL_radius 1 (some .int), .methodLink RL 15 yL_reach, .static yL_reach, .code yL_reach cL_reach 1 (some .int), .methodLink RL 18 yL_near, .static yL_near, .code yL_near cL_near 7 (some .boolean)])
def wsL_review : List Cond := .code yL_review cL_review 7 none :: ([.methodLink RL 26 yL_may, .static yL_may, .initialized RL, .code yL_may cL_may 7 (some .boolean), .methodLink RL 22 yL_allowed, .static yL_allowed, .code yL_allowed cL_allowed 11 (some .boolean), .methodLink RL 9 yL_radius, .static yL_radius, .code yL_radius cL_radius 1 (some .int), .methodLink RL 15 yL_reach, .static yL_reach, .code yL_reach cL_reach 1 (some .int), .methodLink RL 18 yL_near, .static yL_near, .code yL_near cL_near 7 (some .boolean)])
def wsL_ends : List Cond := .code yL_ends cL_ends 4 none :: ([])
def wsL_notices : List Cond := .code yL_notices cL_notices 4 (some .int) :: ([])
def wsL_leases : List Cond := .code yL_leases cL_leases 4 (some .int) :: ([])
def wsL_hour_r1 : List Cond := [Cond.methodLink RL 30 yL_ends, Cond.static yL_ends, Cond.initialized RL, Cond.code yL_ends cL_ends 4 none, Cond.methodLink RL 34 yL_review, Cond.static yL_review, Cond.code yL_review cL_review 7 none, Cond.methodLink RL 26 yL_may, Cond.static yL_may, Cond.code yL_may cL_may 7 (some .boolean), Cond.methodLink RL 22 yL_allowed, Cond.static yL_allowed, Cond.code yL_allowed cL_allowed 11 (some .boolean), Cond.methodLink RL 9 yL_radius, Cond.static yL_radius, Cond.code yL_radius cL_radius 1 (some .int), Cond.methodLink RL 15 yL_reach, Cond.static yL_reach, Cond.code yL_reach cL_reach 1 (some .int), Cond.methodLink RL 18 yL_near, Cond.static yL_near, Cond.code yL_near cL_near 7 (some .boolean), Cond.methodLink RL 38 yL_offer, Cond.static yL_offer]
def wsL_hour_r2 : List Cond := [Cond.code yL_offer cL_offer 13 (some .int)]
def wsL_hour : List Cond := .code yL_hour cL_hour 10 (some .int) :: ((wsL_hour_r1 ++ wsL_hour_r2))
def wsL_adds_r1 : List Cond := [Cond.methodLink RL 42 yX6_addStation, Cond.instanceMethod yX6_addStation, Cond.selects RX6 yX6_addStation yX6_addStation, Cond.initialized RX6, Cond.code yX6_addStation cX6_addStation 5 (some .int), Cond.fieldLink RX6 22 "VacantAir" "history" "LVacantAir$History;", Cond.fieldLink RX6 10 "VacantAir" "present" "LVacantAir$State;", Cond.methodLink RX6 41 yX3_note, Cond.instanceMethod yX3_note, Cond.selects RX3 yX3_note yX3_note, Cond.initialized RX3, Cond.code yX3_note cX3_note 2 none, Cond.fieldLink RX3 11 "VacantAir$History" "ring" "[LVacantAir$State;", Cond.fieldLink RX3 18 "VacantAir$History" "oldest" "I", Cond.fieldLink RX3 22 "VacantAir$History" "count" "I", Cond.methodLink RX3 25 yX4_copyFrom, Cond.instanceMethod yX4_copyFrom, Cond.selects RX4 yX4_copyFrom yX4_copyFrom, Cond.initialized RX4, Cond.code yX4_copyFrom cX4_copyFrom 2 none, Cond.fieldLink RX4 12 "VacantAir$State" "stations" "LVacantAir$Stations;", Cond.fieldLink RX4 21 "VacantAir$State" "events" "LVacantAir$Events;", Cond.fieldLink RX4 28 "VacantAir$State" "devices" "LVacantAir$Devices;", Cond.fieldLink RX4 32 "VacantAir$State" "settings" "[I"]
def wsL_adds_r2 : List Cond := [Cond.fieldLink RX4 53 "VacantAir$State" "hour" "I", Cond.fieldLink RX4 57 "VacantAir$State" "reason" "I", Cond.methodLink RX4 39 yX5_copyFrom, Cond.instanceMethod yX5_copyFrom, Cond.selects RX5 yX5_copyFrom yX5_copyFrom, Cond.initialized RX5, Cond.code yX5_copyFrom cX5_copyFrom 2 none, Cond.fieldLink RX5 9 "VacantAir$Stations" "x" "[I", Cond.fieldLink RX5 15 "VacantAir$Stations" "y" "[I", Cond.fieldLink RX5 18 "VacantAir$Stations" "channel" "[I", Cond.fieldLink RX5 21 "VacantAir$Stations" "powerClass" "[I", Cond.fieldLink RX5 24 "VacantAir$Stations" "awake" "[I", Cond.fieldLink RX5 27 "VacantAir$Stations" "count" "I", Cond.static yX6_copyRow, Cond.code yX6_copyRow cX6_copyRow 2 none, Cond.methodLink RX6 221 Lib.Math.min.name, Cond.static Lib.Math.min.name, Cond.initialized "java/lang/Math", Cond.code Lib.Math.min.name Lib.Math.min.code 2 (some .int), Cond.methodLink RX6 226 arraycopyName, Cond.native arraycopyName, Cond.static arraycopyName, Cond.initialized "java/lang/System", Cond.methodLink RX4 43 yX2_copyFrom]
def wsL_adds_r3 : List Cond := [Cond.instanceMethod yX2_copyFrom, Cond.selects RX2 yX2_copyFrom yX2_copyFrom, Cond.initialized RX2, Cond.code yX2_copyFrom cX2_copyFrom 2 none, Cond.fieldLink RX2 9 "VacantAir$Events" "x" "[I", Cond.fieldLink RX2 15 "VacantAir$Events" "y" "[I", Cond.fieldLink RX2 18 "VacantAir$Events" "radius" "[I", Cond.fieldLink RX2 21 "VacantAir$Events" "channel" "[I", Cond.fieldLink RX2 24 "VacantAir$Events" "from" "[I", Cond.fieldLink RX2 27 "VacantAir$Events" "to" "[I", Cond.fieldLink RX2 30 "VacantAir$Events" "cancelled" "[I", Cond.fieldLink RX2 33 "VacantAir$Events" "count" "I", Cond.methodLink RX4 46 yX1_copyFrom, Cond.instanceMethod yX1_copyFrom, Cond.selects RX1 yX1_copyFrom yX1_copyFrom, Cond.initialized RX1, Cond.code yX1_copyFrom cX1_copyFrom 2 none, Cond.fieldLink RX1 9 "VacantAir$Devices" "x" "[I", Cond.fieldLink RX1 15 "VacantAir$Devices" "y" "[I", Cond.fieldLink RX1 18 "VacantAir$Devices" "greatest" "[I", Cond.fieldLink RX1 21 "VacantAir$Devices" "channel" "[I", Cond.fieldLink RX1 24 "VacantAir$Devices" "power" "[I", Cond.fieldLink RX1 27 "VacantAir$Devices" "end" "[I", Cond.fieldLink RX1 30 "VacantAir$Devices" "notice" "[I"]
def wsL_adds_r4 : List Cond := [Cond.fieldLink RX1 33 "VacantAir$Devices" "hops" "[I", Cond.fieldLink RX1 36 "VacantAir$Devices" "struck" "[I", Cond.fieldLink RX1 39 "VacantAir$Devices" "cut" "[I", Cond.fieldLink RX1 42 "VacantAir$Devices" "count" "I", Cond.methodLink RX6 45 yX4_putStation, Cond.instanceMethod yX4_putStation, Cond.selects RX4 yX4_putStation yX4_putStation, Cond.code yX4_putStation cX4_putStation 6 (some .int), Cond.fieldLink RX4 68 "VacantAir$Stations" "count" "I", Cond.fieldLink RX4 71 "VacantAir$Stations" "x" "[I", Cond.fieldLink RX4 74 "VacantAir$Stations" "y" "[I", Cond.fieldLink RX4 77 "VacantAir$Stations" "channel" "[I", Cond.fieldLink RX4 80 "VacantAir$Stations" "powerClass" "[I", Cond.fieldLink RX4 83 "VacantAir$Stations" "awake" "[I", Cond.static yX6_isNoPlace, Cond.code yX6_isNoPlace cX6_isNoPlace 2 (some .boolean), Cond.methodLink RX6 122 yX6_isOutside, Cond.static yX6_isOutside, Cond.code yX6_isOutside cX6_isOutside 3 (some .boolean), Cond.methodLink RX6 49 yX6_recorded, Cond.instanceMethod yX6_recorded, Cond.selects RX6 yX6_recorded yX6_recorded, Cond.code yX6_recorded cX6_recorded 2 (some .int), Cond.methodLink RX6 215 yX3_keepNoted]
def wsL_adds_r5 : List Cond := [Cond.instanceMethod yX3_keepNoted, Cond.selects RX3 yX3_keepNoted yX3_keepNoted, Cond.code yX3_keepNoted cX3_keepNoted 1 none, Cond.methodLink RL 48 yX6_addEvent, Cond.instanceMethod yX6_addEvent, Cond.selects RX6 yX6_addEvent yX6_addEvent, Cond.code yX6_addEvent cX6_addEvent 7 (some .int), Cond.methodLink RX6 53 yX4_putEvent, Cond.instanceMethod yX4_putEvent, Cond.selects RX4 yX4_putEvent yX4_putEvent, Cond.code yX4_putEvent cX4_putEvent 8 (some .int), Cond.fieldLink RX4 86 "VacantAir$Events" "count" "I", Cond.fieldLink RX4 87 "VacantAir$Events" "x" "[I", Cond.fieldLink RX4 88 "VacantAir$Events" "y" "[I", Cond.fieldLink RX4 89 "VacantAir$Events" "radius" "[I", Cond.fieldLink RX4 92 "VacantAir$Events" "channel" "[I", Cond.fieldLink RX4 93 "VacantAir$Events" "from" "[I", Cond.fieldLink RX4 96 "VacantAir$Events" "to" "[I", Cond.fieldLink RX4 99 "VacantAir$Events" "cancelled" "[I", Cond.methodLink RX4 102 yX4_review, Cond.instanceMethod yX4_review, Cond.selects RX4 yX4_review yX4_review, Cond.code yX4_review cX4_review 2 none, Cond.fieldLink RX4 105 "VacantAir$Devices" "count" "I"]
def wsL_adds_r6 : List Cond := [Cond.fieldLink RX4 183 "VacantAir$Devices" "notice" "[I", Cond.methodLink RX4 155 yX1_hasLease, Cond.instanceMethod yX1_hasLease, Cond.selects RX1 yX1_hasLease yX1_hasLease, Cond.code yX1_hasLease cX1_hasLease 2 (some .boolean), Cond.methodLink RX4 180 yX4_leaseIsAllowed, Cond.instanceMethod yX4_leaseIsAllowed, Cond.selects RX4 yX4_leaseIsAllowed yX4_leaseIsAllowed, Cond.code yX4_leaseIsAllowed cX4_leaseIsAllowed 2 (some .boolean), Cond.fieldLink RX4 154 "VacantAir$Devices" "channel" "[I", Cond.fieldLink RX4 186 "VacantAir$Devices" "power" "[I", Cond.fieldLink RX4 106 "VacantAir$Devices" "x" "[I", Cond.fieldLink RX4 107 "VacantAir$Devices" "y" "[I", Cond.methodLink RX4 192 yX4_isAllowed, Cond.instanceMethod yX4_isAllowed, Cond.selects RX4 yX4_isAllowed yX4_isAllowed, Cond.code yX4_isAllowed cX4_isAllowed 7 (some .boolean), Cond.methodLink RX4 208 yX4_barredRadius, Cond.instanceMethod yX4_barredRadius, Cond.selects RX4 yX4_barredRadius yX4_barredRadius, Cond.code yX4_barredRadius cX4_barredRadius 5 (some .int), Cond.static yX6_isWithin, Cond.code yX6_isWithin cX6_isWithin 3 (some .boolean), Cond.methodLink RX4 211 yX2_isOn]
def wsL_adds_r7 : List Cond := [Cond.instanceMethod yX2_isOn, Cond.selects RX2 yX2_isOn yX2_isOn, Cond.code yX2_isOn cX2_isOn 3 (some .boolean), Cond.methodLink RX4 158 yX1_hasNotice, Cond.instanceMethod yX1_hasNotice, Cond.selects RX1 yX1_hasNotice yX1_hasNotice, Cond.code yX1_hasNotice cX1_hasNotice 2 (some .boolean), Cond.methodLink RL 34 yL_review, Cond.static yL_review, Cond.initialized RL, Cond.code yL_review cL_review 7 none, Cond.methodLink RL 26 yL_may, Cond.static yL_may, Cond.code yL_may cL_may 7 (some .boolean), Cond.methodLink RL 22 yL_allowed, Cond.static yL_allowed, Cond.code yL_allowed cL_allowed 11 (some .boolean), Cond.methodLink RL 9 yL_radius, Cond.static yL_radius, Cond.code yL_radius cL_radius 1 (some .int), Cond.methodLink RL 15 yL_reach, Cond.static yL_reach, Cond.code yL_reach cL_reach 1 (some .int), Cond.methodLink RL 18 yL_near]
def wsL_adds_r8 : List Cond := [Cond.static yL_near, Cond.code yL_near cL_near 7 (some .boolean), Cond.methodLink RL 52 yX6_addDevice, Cond.instanceMethod yX6_addDevice, Cond.selects RX6 yX6_addDevice yX6_addDevice, Cond.code yX6_addDevice cX6_addDevice 4 (some .int), Cond.methodLink RX6 57 yX4_putDevice, Cond.instanceMethod yX4_putDevice, Cond.selects RX4 yX4_putDevice yX4_putDevice, Cond.code yX4_putDevice cX4_putDevice 5 (some .int), Cond.fieldLink RX4 108 "VacantAir$Devices" "greatest" "[I", Cond.fieldLink RX4 111 "VacantAir$Devices" "hops" "[I", Cond.fieldLink RX4 114 "VacantAir$Devices" "struck" "[I", Cond.fieldLink RX4 117 "VacantAir$Devices" "cut" "[I", Cond.methodLink RX4 120 yX1_removeLease, Cond.instanceMethod yX1_removeLease, Cond.selects RX1 yX1_removeLease yX1_removeLease, Cond.code yX1_removeLease cX1_removeLease 2 none, Cond.methodLink RL 30 yL_ends, Cond.static yL_ends, Cond.code yL_ends cL_ends 4 none]
def wsL_adds : List Cond := .code yL_adds cL_adds 15 (some .boolean) :: ((wsL_adds_r1 ++ (wsL_adds_r2 ++ (wsL_adds_r3 ++ (wsL_adds_r4 ++ (wsL_adds_r5 ++ (wsL_adds_r6 ++ (wsL_adds_r7 ++ wsL_adds_r8))))))) ++ wsX60 ++ wsX30 ++ wsX40 ++ wsX50 ++ wsX20 ++ wsX10)
def wsL_turns_r1 : List Cond := [Cond.methodLink RL 56 yX6_wake, Cond.instanceMethod yX6_wake, Cond.selects RX6 yX6_wake yX6_wake, Cond.initialized RX6, Cond.code yX6_wake cX6_wake 2 (some .int), Cond.fieldLink RX6 22 "VacantAir" "history" "LVacantAir$History;", Cond.fieldLink RX6 10 "VacantAir" "present" "LVacantAir$State;", Cond.methodLink RX6 41 yX3_note, Cond.instanceMethod yX3_note, Cond.selects RX3 yX3_note yX3_note, Cond.initialized RX3, Cond.code yX3_note cX3_note 2 none, Cond.fieldLink RX3 11 "VacantAir$History" "ring" "[LVacantAir$State;", Cond.fieldLink RX3 18 "VacantAir$History" "oldest" "I", Cond.fieldLink RX3 22 "VacantAir$History" "count" "I", Cond.methodLink RX3 25 yX4_copyFrom, Cond.instanceMethod yX4_copyFrom, Cond.selects RX4 yX4_copyFrom yX4_copyFrom, Cond.initialized RX4, Cond.code yX4_copyFrom cX4_copyFrom 2 none, Cond.fieldLink RX4 12 "VacantAir$State" "stations" "LVacantAir$Stations;", Cond.fieldLink RX4 21 "VacantAir$State" "events" "LVacantAir$Events;", Cond.fieldLink RX4 28 "VacantAir$State" "devices" "LVacantAir$Devices;", Cond.fieldLink RX4 32 "VacantAir$State" "settings" "[I"]
def wsL_turns_r2 : List Cond := [Cond.fieldLink RX4 53 "VacantAir$State" "hour" "I", Cond.fieldLink RX4 57 "VacantAir$State" "reason" "I", Cond.methodLink RX4 39 yX5_copyFrom, Cond.instanceMethod yX5_copyFrom, Cond.selects RX5 yX5_copyFrom yX5_copyFrom, Cond.initialized RX5, Cond.code yX5_copyFrom cX5_copyFrom 2 none, Cond.fieldLink RX5 9 "VacantAir$Stations" "x" "[I", Cond.fieldLink RX5 15 "VacantAir$Stations" "y" "[I", Cond.fieldLink RX5 18 "VacantAir$Stations" "channel" "[I", Cond.fieldLink RX5 21 "VacantAir$Stations" "powerClass" "[I", Cond.fieldLink RX5 24 "VacantAir$Stations" "awake" "[I", Cond.fieldLink RX5 27 "VacantAir$Stations" "count" "I", Cond.static yX6_copyRow, Cond.code yX6_copyRow cX6_copyRow 2 none, Cond.methodLink RX6 221 Lib.Math.min.name, Cond.static Lib.Math.min.name, Cond.initialized "java/lang/Math", Cond.code Lib.Math.min.name Lib.Math.min.code 2 (some .int), Cond.methodLink RX6 226 arraycopyName, Cond.native arraycopyName, Cond.static arraycopyName, Cond.initialized "java/lang/System", Cond.methodLink RX4 43 yX2_copyFrom]
def wsL_turns_r3 : List Cond := [Cond.instanceMethod yX2_copyFrom, Cond.selects RX2 yX2_copyFrom yX2_copyFrom, Cond.initialized RX2, Cond.code yX2_copyFrom cX2_copyFrom 2 none, Cond.fieldLink RX2 9 "VacantAir$Events" "x" "[I", Cond.fieldLink RX2 15 "VacantAir$Events" "y" "[I", Cond.fieldLink RX2 18 "VacantAir$Events" "radius" "[I", Cond.fieldLink RX2 21 "VacantAir$Events" "channel" "[I", Cond.fieldLink RX2 24 "VacantAir$Events" "from" "[I", Cond.fieldLink RX2 27 "VacantAir$Events" "to" "[I", Cond.fieldLink RX2 30 "VacantAir$Events" "cancelled" "[I", Cond.fieldLink RX2 33 "VacantAir$Events" "count" "I", Cond.methodLink RX4 46 yX1_copyFrom, Cond.instanceMethod yX1_copyFrom, Cond.selects RX1 yX1_copyFrom yX1_copyFrom, Cond.initialized RX1, Cond.code yX1_copyFrom cX1_copyFrom 2 none, Cond.fieldLink RX1 9 "VacantAir$Devices" "x" "[I", Cond.fieldLink RX1 15 "VacantAir$Devices" "y" "[I", Cond.fieldLink RX1 18 "VacantAir$Devices" "greatest" "[I", Cond.fieldLink RX1 21 "VacantAir$Devices" "channel" "[I", Cond.fieldLink RX1 24 "VacantAir$Devices" "power" "[I", Cond.fieldLink RX1 27 "VacantAir$Devices" "end" "[I", Cond.fieldLink RX1 30 "VacantAir$Devices" "notice" "[I"]
def wsL_turns_r4 : List Cond := [Cond.fieldLink RX1 33 "VacantAir$Devices" "hops" "[I", Cond.fieldLink RX1 36 "VacantAir$Devices" "struck" "[I", Cond.fieldLink RX1 39 "VacantAir$Devices" "cut" "[I", Cond.fieldLink RX1 42 "VacantAir$Devices" "count" "I", Cond.methodLink RX6 65 yX4_turnStation, Cond.instanceMethod yX4_turnStation, Cond.selects RX4 yX4_turnStation yX4_turnStation, Cond.code yX4_turnStation cX4_turnStation 3 (some .int), Cond.fieldLink RX4 83 "VacantAir$Stations" "awake" "[I", Cond.methodLink RX4 130 yX5_has, Cond.instanceMethod yX5_has, Cond.selects RX5 yX5_has yX5_has, Cond.code yX5_has cX5_has 2 (some .boolean), Cond.methodLink RX4 102 yX4_review, Cond.instanceMethod yX4_review, Cond.selects RX4 yX4_review yX4_review, Cond.code yX4_review cX4_review 2 none, Cond.fieldLink RX4 105 "VacantAir$Devices" "count" "I", Cond.fieldLink RX4 183 "VacantAir$Devices" "notice" "[I", Cond.methodLink RX4 155 yX1_hasLease, Cond.instanceMethod yX1_hasLease, Cond.selects RX1 yX1_hasLease yX1_hasLease, Cond.code yX1_hasLease cX1_hasLease 2 (some .boolean), Cond.methodLink RX4 180 yX4_leaseIsAllowed]
def wsL_turns_r5 : List Cond := [Cond.instanceMethod yX4_leaseIsAllowed, Cond.selects RX4 yX4_leaseIsAllowed yX4_leaseIsAllowed, Cond.code yX4_leaseIsAllowed cX4_leaseIsAllowed 2 (some .boolean), Cond.fieldLink RX4 154 "VacantAir$Devices" "channel" "[I", Cond.fieldLink RX4 186 "VacantAir$Devices" "power" "[I", Cond.fieldLink RX4 106 "VacantAir$Devices" "x" "[I", Cond.fieldLink RX4 107 "VacantAir$Devices" "y" "[I", Cond.methodLink RX4 192 yX4_isAllowed, Cond.instanceMethod yX4_isAllowed, Cond.selects RX4 yX4_isAllowed yX4_isAllowed, Cond.code yX4_isAllowed cX4_isAllowed 7 (some .boolean), Cond.fieldLink RX4 68 "VacantAir$Stations" "count" "I", Cond.fieldLink RX4 71 "VacantAir$Stations" "x" "[I", Cond.fieldLink RX4 74 "VacantAir$Stations" "y" "[I", Cond.fieldLink RX4 86 "VacantAir$Events" "count" "I", Cond.fieldLink RX4 92 "VacantAir$Events" "channel" "[I", Cond.fieldLink RX4 87 "VacantAir$Events" "x" "[I", Cond.fieldLink RX4 88 "VacantAir$Events" "y" "[I", Cond.fieldLink RX4 89 "VacantAir$Events" "radius" "[I", Cond.methodLink RX4 208 yX4_barredRadius, Cond.instanceMethod yX4_barredRadius, Cond.selects RX4 yX4_barredRadius yX4_barredRadius, Cond.code yX4_barredRadius cX4_barredRadius 5 (some .int), Cond.fieldLink RX4 80 "VacantAir$Stations" "powerClass" "[I"]
def wsL_turns_r6 : List Cond := [Cond.fieldLink RX4 77 "VacantAir$Stations" "channel" "[I", Cond.static yX6_isWithin, Cond.code yX6_isWithin cX6_isWithin 3 (some .boolean), Cond.methodLink RX4 211 yX2_isOn, Cond.instanceMethod yX2_isOn, Cond.selects RX2 yX2_isOn yX2_isOn, Cond.code yX2_isOn cX2_isOn 3 (some .boolean), Cond.methodLink RX4 158 yX1_hasNotice, Cond.instanceMethod yX1_hasNotice, Cond.selects RX1 yX1_hasNotice yX1_hasNotice, Cond.code yX1_hasNotice cX1_hasNotice 2 (some .boolean), Cond.methodLink RX4 134 yX1_countNotices, Cond.instanceMethod yX1_countNotices, Cond.selects RX1 yX1_countNotices yX1_countNotices, Cond.code yX1_countNotices cX1_countNotices 3 (some .int), Cond.methodLink RX1 50 yX1_hasNotice, Cond.methodLink RX6 49 yX6_recorded, Cond.instanceMethod yX6_recorded, Cond.selects RX6 yX6_recorded yX6_recorded, Cond.code yX6_recorded cX6_recorded 2 (some .int), Cond.methodLink RX6 215 yX3_keepNoted, Cond.instanceMethod yX3_keepNoted, Cond.selects RX3 yX3_keepNoted yX3_keepNoted, Cond.code yX3_keepNoted cX3_keepNoted 1 none]
def wsL_turns_r7 : List Cond := [Cond.methodLink RL 59 yX6_sleep, Cond.instanceMethod yX6_sleep, Cond.selects RX6 yX6_sleep yX6_sleep, Cond.code yX6_sleep cX6_sleep 2 (some .int), Cond.methodLink RL 34 yL_review, Cond.static yL_review, Cond.initialized RL, Cond.code yL_review cL_review 7 none, Cond.methodLink RL 26 yL_may, Cond.static yL_may, Cond.code yL_may cL_may 7 (some .boolean), Cond.methodLink RL 22 yL_allowed, Cond.static yL_allowed, Cond.code yL_allowed cL_allowed 11 (some .boolean), Cond.methodLink RL 9 yL_radius, Cond.static yL_radius, Cond.code yL_radius cL_radius 1 (some .int), Cond.methodLink RL 15 yL_reach, Cond.static yL_reach, Cond.code yL_reach cL_reach 1 (some .int), Cond.methodLink RL 18 yL_near, Cond.static yL_near, Cond.code yL_near cL_near 7 (some .boolean), Cond.methodLink RL 62 yL_notices]
def wsL_turns_r8 : List Cond := [Cond.static yL_notices, Cond.code yL_notices cL_notices 4 (some .int), Cond.methodLink RL 66 yX6_cancel, Cond.instanceMethod yX6_cancel, Cond.selects RX6 yX6_cancel yX6_cancel, Cond.code yX6_cancel cX6_cancel 2 (some .int), Cond.methodLink RX6 68 yX4_callOff, Cond.instanceMethod yX4_callOff, Cond.selects RX4 yX4_callOff yX4_callOff, Cond.code yX4_callOff cX4_callOff 2 (some .int), Cond.fieldLink RX4 99 "VacantAir$Events" "cancelled" "[I", Cond.fieldLink RX4 96 "VacantAir$Events" "to" "[I", Cond.methodLink RX4 138 yX2_has, Cond.instanceMethod yX2_has, Cond.selects RX2 yX2_has yX2_has, Cond.code yX2_has cX2_has 2 (some .boolean), Cond.methodLink RL 69 yX6_set, Cond.instanceMethod yX6_set, Cond.selects RX6 yX6_set yX6_set, Cond.code yX6_set cX6_set 3 (some .int), Cond.methodLink RX6 61 yX4_change, Cond.instanceMethod yX4_change, Cond.selects RX4 yX4_change yX4_change, Cond.code yX4_change cX4_change 4 (some .int)]
def wsL_turns_r9 : List Cond := [Cond.static yX6_isOutside, Cond.code yX6_isOutside cX6_isOutside 3 (some .boolean)]
def wsL_turns : List Cond := .code yL_turns cL_turns 10 (some .boolean) :: ((wsL_turns_r1 ++ (wsL_turns_r2 ++ (wsL_turns_r3 ++ (wsL_turns_r4 ++ (wsL_turns_r5 ++ (wsL_turns_r6 ++ (wsL_turns_r7 ++ (wsL_turns_r8 ++ wsL_turns_r9)))))))) ++ wsX60 ++ wsX30 ++ wsX40 ++ wsX50 ++ wsX20 ++ wsX10)
def wsL_leased_r1 : List Cond := [Cond.methodLink RL 26 yL_may, Cond.static yL_may, Cond.initialized RL, Cond.code yL_may cL_may 7 (some .boolean), Cond.methodLink RL 22 yL_allowed, Cond.static yL_allowed, Cond.code yL_allowed cL_allowed 11 (some .boolean), Cond.methodLink RL 9 yL_radius, Cond.static yL_radius, Cond.code yL_radius cL_radius 1 (some .int), Cond.methodLink RL 15 yL_reach, Cond.static yL_reach, Cond.code yL_reach cL_reach 1 (some .int), Cond.methodLink RL 18 yL_near, Cond.static yL_near, Cond.code yL_near cL_near 7 (some .boolean), Cond.methodLink RL 38 yL_offer, Cond.static yL_offer, Cond.code yL_offer cL_offer 13 (some .int), Cond.methodLink RL 73 yX6_lease, Cond.instanceMethod yX6_lease, Cond.selects RX6 yX6_lease yX6_lease, Cond.initialized RX6, Cond.code yX6_lease cX6_lease 4 (some .int)]
def wsL_leased_r2 : List Cond := [Cond.fieldLink RX6 22 "VacantAir" "history" "LVacantAir$History;", Cond.fieldLink RX6 10 "VacantAir" "present" "LVacantAir$State;", Cond.methodLink RX6 41 yX3_note, Cond.instanceMethod yX3_note, Cond.selects RX3 yX3_note yX3_note, Cond.initialized RX3, Cond.code yX3_note cX3_note 2 none, Cond.fieldLink RX3 11 "VacantAir$History" "ring" "[LVacantAir$State;", Cond.fieldLink RX3 18 "VacantAir$History" "oldest" "I", Cond.fieldLink RX3 22 "VacantAir$History" "count" "I", Cond.methodLink RX3 25 yX4_copyFrom, Cond.instanceMethod yX4_copyFrom, Cond.selects RX4 yX4_copyFrom yX4_copyFrom, Cond.initialized RX4, Cond.code yX4_copyFrom cX4_copyFrom 2 none, Cond.fieldLink RX4 12 "VacantAir$State" "stations" "LVacantAir$Stations;", Cond.fieldLink RX4 21 "VacantAir$State" "events" "LVacantAir$Events;", Cond.fieldLink RX4 28 "VacantAir$State" "devices" "LVacantAir$Devices;", Cond.fieldLink RX4 32 "VacantAir$State" "settings" "[I", Cond.fieldLink RX4 53 "VacantAir$State" "hour" "I", Cond.fieldLink RX4 57 "VacantAir$State" "reason" "I", Cond.methodLink RX4 39 yX5_copyFrom, Cond.instanceMethod yX5_copyFrom, Cond.selects RX5 yX5_copyFrom yX5_copyFrom]
def wsL_leased_r3 : List Cond := [Cond.initialized RX5, Cond.code yX5_copyFrom cX5_copyFrom 2 none, Cond.fieldLink RX5 9 "VacantAir$Stations" "x" "[I", Cond.fieldLink RX5 15 "VacantAir$Stations" "y" "[I", Cond.fieldLink RX5 18 "VacantAir$Stations" "channel" "[I", Cond.fieldLink RX5 21 "VacantAir$Stations" "powerClass" "[I", Cond.fieldLink RX5 24 "VacantAir$Stations" "awake" "[I", Cond.fieldLink RX5 27 "VacantAir$Stations" "count" "I", Cond.static yX6_copyRow, Cond.code yX6_copyRow cX6_copyRow 2 none, Cond.methodLink RX6 221 Lib.Math.min.name, Cond.static Lib.Math.min.name, Cond.initialized "java/lang/Math", Cond.code Lib.Math.min.name Lib.Math.min.code 2 (some .int), Cond.methodLink RX6 226 arraycopyName, Cond.native arraycopyName, Cond.static arraycopyName, Cond.initialized "java/lang/System", Cond.methodLink RX4 43 yX2_copyFrom, Cond.instanceMethod yX2_copyFrom, Cond.selects RX2 yX2_copyFrom yX2_copyFrom, Cond.initialized RX2, Cond.code yX2_copyFrom cX2_copyFrom 2 none, Cond.fieldLink RX2 9 "VacantAir$Events" "x" "[I"]
def wsL_leased_r4 : List Cond := [Cond.fieldLink RX2 15 "VacantAir$Events" "y" "[I", Cond.fieldLink RX2 18 "VacantAir$Events" "radius" "[I", Cond.fieldLink RX2 21 "VacantAir$Events" "channel" "[I", Cond.fieldLink RX2 24 "VacantAir$Events" "from" "[I", Cond.fieldLink RX2 27 "VacantAir$Events" "to" "[I", Cond.fieldLink RX2 30 "VacantAir$Events" "cancelled" "[I", Cond.fieldLink RX2 33 "VacantAir$Events" "count" "I", Cond.methodLink RX4 46 yX1_copyFrom, Cond.instanceMethod yX1_copyFrom, Cond.selects RX1 yX1_copyFrom yX1_copyFrom, Cond.initialized RX1, Cond.code yX1_copyFrom cX1_copyFrom 2 none, Cond.fieldLink RX1 9 "VacantAir$Devices" "x" "[I", Cond.fieldLink RX1 15 "VacantAir$Devices" "y" "[I", Cond.fieldLink RX1 18 "VacantAir$Devices" "greatest" "[I", Cond.fieldLink RX1 21 "VacantAir$Devices" "channel" "[I", Cond.fieldLink RX1 24 "VacantAir$Devices" "power" "[I", Cond.fieldLink RX1 27 "VacantAir$Devices" "end" "[I", Cond.fieldLink RX1 30 "VacantAir$Devices" "notice" "[I", Cond.fieldLink RX1 33 "VacantAir$Devices" "hops" "[I", Cond.fieldLink RX1 36 "VacantAir$Devices" "struck" "[I", Cond.fieldLink RX1 39 "VacantAir$Devices" "cut" "[I", Cond.fieldLink RX1 42 "VacantAir$Devices" "count" "I", Cond.methodLink RX6 71 yX4_makeLease]
def wsL_leased_r5 : List Cond := [Cond.instanceMethod yX4_makeLease, Cond.selects RX4 yX4_makeLease yX4_makeLease, Cond.code yX4_makeLease cX4_makeLease 4 (some .int), Cond.fieldLink RX4 151 "VacantAir$Devices" "end" "[I", Cond.fieldLink RX4 154 "VacantAir$Devices" "channel" "[I", Cond.methodLink RX4 139 yX1_has, Cond.instanceMethod yX1_has, Cond.selects RX1 yX1_has yX1_has, Cond.code yX1_has cX1_has 2 (some .boolean), Cond.static yX6_isOutside, Cond.code yX6_isOutside cX6_isOutside 3 (some .boolean), Cond.methodLink RX4 140 yX4_refusal, Cond.instanceMethod yX4_refusal, Cond.selects RX4 yX4_refusal yX4_refusal, Cond.code yX4_refusal cX4_refusal 3 (some .int), Cond.fieldLink RX4 108 "VacantAir$Devices" "greatest" "[I", Cond.methodLink RX4 155 yX1_hasLease, Cond.instanceMethod yX1_hasLease, Cond.selects RX1 yX1_hasLease yX1_hasLease, Cond.code yX1_hasLease cX1_hasLease 2 (some .boolean), Cond.methodLink RX4 189 yX4_isAllowedOnAny, Cond.instanceMethod yX4_isAllowedOnAny, Cond.selects RX4 yX4_isAllowedOnAny yX4_isAllowedOnAny, Cond.code yX4_isAllowedOnAny cX4_isAllowedOnAny 4 (some .boolean)]
def wsL_leased_r6 : List Cond := [Cond.fieldLink RX4 106 "VacantAir$Devices" "x" "[I", Cond.fieldLink RX4 107 "VacantAir$Devices" "y" "[I", Cond.methodLink RX4 192 yX4_isAllowed, Cond.instanceMethod yX4_isAllowed, Cond.selects RX4 yX4_isAllowed yX4_isAllowed, Cond.code yX4_isAllowed cX4_isAllowed 7 (some .boolean), Cond.fieldLink RX4 68 "VacantAir$Stations" "count" "I", Cond.fieldLink RX4 71 "VacantAir$Stations" "x" "[I", Cond.fieldLink RX4 74 "VacantAir$Stations" "y" "[I", Cond.fieldLink RX4 86 "VacantAir$Events" "count" "I", Cond.fieldLink RX4 92 "VacantAir$Events" "channel" "[I", Cond.fieldLink RX4 87 "VacantAir$Events" "x" "[I", Cond.fieldLink RX4 88 "VacantAir$Events" "y" "[I", Cond.fieldLink RX4 89 "VacantAir$Events" "radius" "[I", Cond.methodLink RX4 208 yX4_barredRadius, Cond.instanceMethod yX4_barredRadius, Cond.selects RX4 yX4_barredRadius yX4_barredRadius, Cond.code yX4_barredRadius cX4_barredRadius 5 (some .int), Cond.fieldLink RX4 83 "VacantAir$Stations" "awake" "[I", Cond.fieldLink RX4 80 "VacantAir$Stations" "powerClass" "[I", Cond.fieldLink RX4 77 "VacantAir$Stations" "channel" "[I", Cond.static yX6_isWithin, Cond.code yX6_isWithin cX6_isWithin 3 (some .boolean), Cond.methodLink RX4 211 yX2_isOn]
def wsL_leased_r7 : List Cond := [Cond.instanceMethod yX2_isOn, Cond.selects RX2 yX2_isOn yX2_isOn, Cond.code yX2_isOn cX2_isOn 3 (some .boolean), Cond.methodLink RX4 144 yX4_findOffer, Cond.instanceMethod yX4_findOffer, Cond.selects RX4 yX4_findOffer yX4_findOffer, Cond.code yX4_findOffer cX4_findOffer 7 (some .int), Cond.methodLink RX4 196 yX4_isFree, Cond.instanceMethod yX4_isFree, Cond.selects RX4 yX4_isFree yX4_isFree, Cond.code yX4_isFree cX4_isFree 5 (some .boolean), Cond.fieldLink RX4 105 "VacantAir$Devices" "count" "I", Cond.fieldLink RX4 186 "VacantAir$Devices" "power" "[I", Cond.methodLink RX4 199 yX1_countOn, Cond.instanceMethod yX1_countOn, Cond.selects RX1 yX1_countOn yX1_countOn, Cond.code yX1_countOn cX1_countOn 4 (some .int), Cond.methodLink RX4 147 yX1_putOn, Cond.instanceMethod yX1_putOn, Cond.selects RX1 yX1_putOn yX1_putOn, Cond.code yX1_putOn cX1_putOn 4 none, Cond.methodLink RX6 49 yX6_recorded, Cond.instanceMethod yX6_recorded, Cond.selects RX6 yX6_recorded yX6_recorded]
def wsL_leased_r8 : List Cond := [Cond.code yX6_recorded cX6_recorded 2 (some .int), Cond.methodLink RX6 215 yX3_keepNoted, Cond.instanceMethod yX3_keepNoted, Cond.selects RX3 yX3_keepNoted yX3_keepNoted, Cond.code yX3_keepNoted cX3_keepNoted 1 none, Cond.methodLink RL 76 yX6_renew, Cond.instanceMethod yX6_renew, Cond.selects RX6 yX6_renew yX6_renew, Cond.code yX6_renew cX6_renew 3 (some .int), Cond.methodLink RX6 74 yX4_prolongLease, Cond.instanceMethod yX4_prolongLease, Cond.selects RX4 yX4_prolongLease yX4_prolongLease, Cond.code yX4_prolongLease cX4_prolongLease 3 (some .int), Cond.methodLink RX4 158 yX1_hasNotice, Cond.instanceMethod yX1_hasNotice, Cond.selects RX1 yX1_hasNotice yX1_hasNotice, Cond.code yX1_hasNotice cX1_hasNotice 2 (some .boolean), Cond.methodLink RL 79 yX6_giveBack, Cond.instanceMethod yX6_giveBack, Cond.selects RX6 yX6_giveBack yX6_giveBack, Cond.code yX6_giveBack cX6_giveBack 2 (some .int), Cond.methodLink RX6 77 yX4_dropLease, Cond.instanceMethod yX4_dropLease, Cond.selects RX4 yX4_dropLease yX4_dropLease]
def wsL_leased_r9 : List Cond := [Cond.code yX4_dropLease cX4_dropLease 2 (some .int), Cond.methodLink RX4 120 yX1_removeLease, Cond.instanceMethod yX1_removeLease, Cond.selects RX1 yX1_removeLease yX1_removeLease, Cond.code yX1_removeLease cX1_removeLease 2 none, Cond.methodLink RX4 161 yX1_countLeases, Cond.instanceMethod yX1_countLeases, Cond.selects RX1 yX1_countLeases yX1_countLeases, Cond.code yX1_countLeases cX1_countLeases 3 (some .int), Cond.methodLink RX1 46 yX1_hasLease, Cond.methodLink RL 30 yL_ends, Cond.static yL_ends, Cond.code yL_ends cL_ends 4 none, Cond.methodLink RL 82 yL_leases, Cond.static yL_leases, Cond.code yL_leases cL_leases 4 (some .int)]
def wsL_leased : List Cond := .code yL_leased cL_leased 13 (some .boolean) :: ((wsL_leased_r1 ++ (wsL_leased_r2 ++ (wsL_leased_r3 ++ (wsL_leased_r4 ++ (wsL_leased_r5 ++ (wsL_leased_r6 ++ (wsL_leased_r7 ++ (wsL_leased_r8 ++ wsL_leased_r9)))))))) ++ wsX60 ++ wsX30 ++ wsX40 ++ wsX50 ++ wsX20 ++ wsX10)
def wsL_acts_r1 : List Cond := [Cond.constant RL 85 (10000000), Cond.methodLink RL 86 yL_low, Cond.static yL_low, Cond.initialized RL, Cond.code yL_low cL_low 2 (some .int), Cond.constant RL 8 (2147483647), Cond.methodLink RL 89 yL_adds, Cond.static yL_adds, Cond.code yL_adds cL_adds 15 (some .boolean), Cond.methodLink RL 42 yX6_addStation, Cond.instanceMethod yX6_addStation, Cond.selects RX6 yX6_addStation yX6_addStation, Cond.initialized RX6, Cond.code yX6_addStation cX6_addStation 5 (some .int), Cond.fieldLink RX6 22 "VacantAir" "history" "LVacantAir$History;", Cond.fieldLink RX6 10 "VacantAir" "present" "LVacantAir$State;", Cond.methodLink RX6 41 yX3_note, Cond.instanceMethod yX3_note, Cond.selects RX3 yX3_note yX3_note, Cond.initialized RX3, Cond.code yX3_note cX3_note 2 none, Cond.fieldLink RX3 11 "VacantAir$History" "ring" "[LVacantAir$State;", Cond.fieldLink RX3 18 "VacantAir$History" "oldest" "I", Cond.fieldLink RX3 22 "VacantAir$History" "count" "I"]
def wsL_acts_r2 : List Cond := [Cond.methodLink RX3 25 yX4_copyFrom, Cond.instanceMethod yX4_copyFrom, Cond.selects RX4 yX4_copyFrom yX4_copyFrom, Cond.initialized RX4, Cond.code yX4_copyFrom cX4_copyFrom 2 none, Cond.fieldLink RX4 12 "VacantAir$State" "stations" "LVacantAir$Stations;", Cond.fieldLink RX4 21 "VacantAir$State" "events" "LVacantAir$Events;", Cond.fieldLink RX4 28 "VacantAir$State" "devices" "LVacantAir$Devices;", Cond.fieldLink RX4 32 "VacantAir$State" "settings" "[I", Cond.fieldLink RX4 53 "VacantAir$State" "hour" "I", Cond.fieldLink RX4 57 "VacantAir$State" "reason" "I", Cond.methodLink RX4 39 yX5_copyFrom, Cond.instanceMethod yX5_copyFrom, Cond.selects RX5 yX5_copyFrom yX5_copyFrom, Cond.initialized RX5, Cond.code yX5_copyFrom cX5_copyFrom 2 none, Cond.fieldLink RX5 9 "VacantAir$Stations" "x" "[I", Cond.fieldLink RX5 15 "VacantAir$Stations" "y" "[I", Cond.fieldLink RX5 18 "VacantAir$Stations" "channel" "[I", Cond.fieldLink RX5 21 "VacantAir$Stations" "powerClass" "[I", Cond.fieldLink RX5 24 "VacantAir$Stations" "awake" "[I", Cond.fieldLink RX5 27 "VacantAir$Stations" "count" "I", Cond.static yX6_copyRow, Cond.code yX6_copyRow cX6_copyRow 2 none]
def wsL_acts_r3 : List Cond := [Cond.methodLink RX6 221 Lib.Math.min.name, Cond.static Lib.Math.min.name, Cond.initialized "java/lang/Math", Cond.code Lib.Math.min.name Lib.Math.min.code 2 (some .int), Cond.methodLink RX6 226 arraycopyName, Cond.native arraycopyName, Cond.static arraycopyName, Cond.initialized "java/lang/System", Cond.methodLink RX4 43 yX2_copyFrom, Cond.instanceMethod yX2_copyFrom, Cond.selects RX2 yX2_copyFrom yX2_copyFrom, Cond.initialized RX2, Cond.code yX2_copyFrom cX2_copyFrom 2 none, Cond.fieldLink RX2 9 "VacantAir$Events" "x" "[I", Cond.fieldLink RX2 15 "VacantAir$Events" "y" "[I", Cond.fieldLink RX2 18 "VacantAir$Events" "radius" "[I", Cond.fieldLink RX2 21 "VacantAir$Events" "channel" "[I", Cond.fieldLink RX2 24 "VacantAir$Events" "from" "[I", Cond.fieldLink RX2 27 "VacantAir$Events" "to" "[I", Cond.fieldLink RX2 30 "VacantAir$Events" "cancelled" "[I", Cond.fieldLink RX2 33 "VacantAir$Events" "count" "I", Cond.methodLink RX4 46 yX1_copyFrom, Cond.instanceMethod yX1_copyFrom, Cond.selects RX1 yX1_copyFrom yX1_copyFrom]
def wsL_acts_r4 : List Cond := [Cond.initialized RX1, Cond.code yX1_copyFrom cX1_copyFrom 2 none, Cond.fieldLink RX1 9 "VacantAir$Devices" "x" "[I", Cond.fieldLink RX1 15 "VacantAir$Devices" "y" "[I", Cond.fieldLink RX1 18 "VacantAir$Devices" "greatest" "[I", Cond.fieldLink RX1 21 "VacantAir$Devices" "channel" "[I", Cond.fieldLink RX1 24 "VacantAir$Devices" "power" "[I", Cond.fieldLink RX1 27 "VacantAir$Devices" "end" "[I", Cond.fieldLink RX1 30 "VacantAir$Devices" "notice" "[I", Cond.fieldLink RX1 33 "VacantAir$Devices" "hops" "[I", Cond.fieldLink RX1 36 "VacantAir$Devices" "struck" "[I", Cond.fieldLink RX1 39 "VacantAir$Devices" "cut" "[I", Cond.fieldLink RX1 42 "VacantAir$Devices" "count" "I", Cond.methodLink RX6 45 yX4_putStation, Cond.instanceMethod yX4_putStation, Cond.selects RX4 yX4_putStation yX4_putStation, Cond.code yX4_putStation cX4_putStation 6 (some .int), Cond.fieldLink RX4 68 "VacantAir$Stations" "count" "I", Cond.fieldLink RX4 71 "VacantAir$Stations" "x" "[I", Cond.fieldLink RX4 74 "VacantAir$Stations" "y" "[I", Cond.fieldLink RX4 77 "VacantAir$Stations" "channel" "[I", Cond.fieldLink RX4 80 "VacantAir$Stations" "powerClass" "[I", Cond.fieldLink RX4 83 "VacantAir$Stations" "awake" "[I", Cond.static yX6_isNoPlace]
def wsL_acts_r5 : List Cond := [Cond.code yX6_isNoPlace cX6_isNoPlace 2 (some .boolean), Cond.methodLink RX6 122 yX6_isOutside, Cond.static yX6_isOutside, Cond.code yX6_isOutside cX6_isOutside 3 (some .boolean), Cond.methodLink RX6 49 yX6_recorded, Cond.instanceMethod yX6_recorded, Cond.selects RX6 yX6_recorded yX6_recorded, Cond.code yX6_recorded cX6_recorded 2 (some .int), Cond.methodLink RX6 215 yX3_keepNoted, Cond.instanceMethod yX3_keepNoted, Cond.selects RX3 yX3_keepNoted yX3_keepNoted, Cond.code yX3_keepNoted cX3_keepNoted 1 none, Cond.methodLink RL 48 yX6_addEvent, Cond.instanceMethod yX6_addEvent, Cond.selects RX6 yX6_addEvent yX6_addEvent, Cond.code yX6_addEvent cX6_addEvent 7 (some .int), Cond.methodLink RX6 53 yX4_putEvent, Cond.instanceMethod yX4_putEvent, Cond.selects RX4 yX4_putEvent yX4_putEvent, Cond.code yX4_putEvent cX4_putEvent 8 (some .int), Cond.fieldLink RX4 86 "VacantAir$Events" "count" "I", Cond.fieldLink RX4 87 "VacantAir$Events" "x" "[I", Cond.fieldLink RX4 88 "VacantAir$Events" "y" "[I", Cond.fieldLink RX4 89 "VacantAir$Events" "radius" "[I"]
def wsL_acts_r6 : List Cond := [Cond.fieldLink RX4 92 "VacantAir$Events" "channel" "[I", Cond.fieldLink RX4 93 "VacantAir$Events" "from" "[I", Cond.fieldLink RX4 96 "VacantAir$Events" "to" "[I", Cond.fieldLink RX4 99 "VacantAir$Events" "cancelled" "[I", Cond.methodLink RX4 102 yX4_review, Cond.instanceMethod yX4_review, Cond.selects RX4 yX4_review yX4_review, Cond.code yX4_review cX4_review 2 none, Cond.fieldLink RX4 105 "VacantAir$Devices" "count" "I", Cond.fieldLink RX4 183 "VacantAir$Devices" "notice" "[I", Cond.methodLink RX4 155 yX1_hasLease, Cond.instanceMethod yX1_hasLease, Cond.selects RX1 yX1_hasLease yX1_hasLease, Cond.code yX1_hasLease cX1_hasLease 2 (some .boolean), Cond.methodLink RX4 180 yX4_leaseIsAllowed, Cond.instanceMethod yX4_leaseIsAllowed, Cond.selects RX4 yX4_leaseIsAllowed yX4_leaseIsAllowed, Cond.code yX4_leaseIsAllowed cX4_leaseIsAllowed 2 (some .boolean), Cond.fieldLink RX4 154 "VacantAir$Devices" "channel" "[I", Cond.fieldLink RX4 186 "VacantAir$Devices" "power" "[I", Cond.fieldLink RX4 106 "VacantAir$Devices" "x" "[I", Cond.fieldLink RX4 107 "VacantAir$Devices" "y" "[I", Cond.methodLink RX4 192 yX4_isAllowed, Cond.instanceMethod yX4_isAllowed]
def wsL_acts_r7 : List Cond := [Cond.selects RX4 yX4_isAllowed yX4_isAllowed, Cond.code yX4_isAllowed cX4_isAllowed 7 (some .boolean), Cond.methodLink RX4 208 yX4_barredRadius, Cond.instanceMethod yX4_barredRadius, Cond.selects RX4 yX4_barredRadius yX4_barredRadius, Cond.code yX4_barredRadius cX4_barredRadius 5 (some .int), Cond.static yX6_isWithin, Cond.code yX6_isWithin cX6_isWithin 3 (some .boolean), Cond.methodLink RX4 211 yX2_isOn, Cond.instanceMethod yX2_isOn, Cond.selects RX2 yX2_isOn yX2_isOn, Cond.code yX2_isOn cX2_isOn 3 (some .boolean), Cond.methodLink RX4 158 yX1_hasNotice, Cond.instanceMethod yX1_hasNotice, Cond.selects RX1 yX1_hasNotice yX1_hasNotice, Cond.code yX1_hasNotice cX1_hasNotice 2 (some .boolean), Cond.methodLink RL 34 yL_review, Cond.static yL_review, Cond.code yL_review cL_review 7 none, Cond.methodLink RL 26 yL_may, Cond.static yL_may, Cond.code yL_may cL_may 7 (some .boolean), Cond.methodLink RL 22 yL_allowed, Cond.static yL_allowed]
def wsL_acts_r8 : List Cond := [Cond.code yL_allowed cL_allowed 11 (some .boolean), Cond.methodLink RL 9 yL_radius, Cond.static yL_radius, Cond.code yL_radius cL_radius 1 (some .int), Cond.methodLink RL 15 yL_reach, Cond.static yL_reach, Cond.code yL_reach cL_reach 1 (some .int), Cond.methodLink RL 18 yL_near, Cond.static yL_near, Cond.code yL_near cL_near 7 (some .boolean), Cond.methodLink RL 52 yX6_addDevice, Cond.instanceMethod yX6_addDevice, Cond.selects RX6 yX6_addDevice yX6_addDevice, Cond.code yX6_addDevice cX6_addDevice 4 (some .int), Cond.methodLink RX6 57 yX4_putDevice, Cond.instanceMethod yX4_putDevice, Cond.selects RX4 yX4_putDevice yX4_putDevice, Cond.code yX4_putDevice cX4_putDevice 5 (some .int), Cond.fieldLink RX4 108 "VacantAir$Devices" "greatest" "[I", Cond.fieldLink RX4 111 "VacantAir$Devices" "hops" "[I", Cond.fieldLink RX4 114 "VacantAir$Devices" "struck" "[I", Cond.fieldLink RX4 117 "VacantAir$Devices" "cut" "[I", Cond.methodLink RX4 120 yX1_removeLease, Cond.instanceMethod yX1_removeLease]
def wsL_acts_r9 : List Cond := [Cond.selects RX1 yX1_removeLease yX1_removeLease, Cond.code yX1_removeLease cX1_removeLease 2 none, Cond.methodLink RL 30 yL_ends, Cond.static yL_ends, Cond.code yL_ends cL_ends 4 none, Cond.methodLink RL 93 yL_turns, Cond.static yL_turns, Cond.code yL_turns cL_turns 10 (some .boolean), Cond.methodLink RL 56 yX6_wake, Cond.instanceMethod yX6_wake, Cond.selects RX6 yX6_wake yX6_wake, Cond.code yX6_wake cX6_wake 2 (some .int), Cond.methodLink RX6 65 yX4_turnStation, Cond.instanceMethod yX4_turnStation, Cond.selects RX4 yX4_turnStation yX4_turnStation, Cond.code yX4_turnStation cX4_turnStation 3 (some .int), Cond.methodLink RX4 130 yX5_has, Cond.instanceMethod yX5_has, Cond.selects RX5 yX5_has yX5_has, Cond.code yX5_has cX5_has 2 (some .boolean), Cond.methodLink RX4 134 yX1_countNotices, Cond.instanceMethod yX1_countNotices, Cond.selects RX1 yX1_countNotices yX1_countNotices, Cond.code yX1_countNotices cX1_countNotices 3 (some .int)]
def wsL_acts_r10 : List Cond := [Cond.methodLink RX1 50 yX1_hasNotice, Cond.methodLink RL 59 yX6_sleep, Cond.instanceMethod yX6_sleep, Cond.selects RX6 yX6_sleep yX6_sleep, Cond.code yX6_sleep cX6_sleep 2 (some .int), Cond.methodLink RL 62 yL_notices, Cond.static yL_notices, Cond.code yL_notices cL_notices 4 (some .int), Cond.methodLink RL 66 yX6_cancel, Cond.instanceMethod yX6_cancel, Cond.selects RX6 yX6_cancel yX6_cancel, Cond.code yX6_cancel cX6_cancel 2 (some .int), Cond.methodLink RX6 68 yX4_callOff, Cond.instanceMethod yX4_callOff, Cond.selects RX4 yX4_callOff yX4_callOff, Cond.code yX4_callOff cX4_callOff 2 (some .int), Cond.methodLink RX4 138 yX2_has, Cond.instanceMethod yX2_has, Cond.selects RX2 yX2_has yX2_has, Cond.code yX2_has cX2_has 2 (some .boolean), Cond.methodLink RL 69 yX6_set, Cond.instanceMethod yX6_set, Cond.selects RX6 yX6_set yX6_set, Cond.code yX6_set cX6_set 3 (some .int)]
def wsL_acts_r11 : List Cond := [Cond.methodLink RX6 61 yX4_change, Cond.instanceMethod yX4_change, Cond.selects RX4 yX4_change yX4_change, Cond.code yX4_change cX4_change 4 (some .int), Cond.methodLink RL 73 yX6_lease, Cond.instanceMethod yX6_lease, Cond.selects RX6 yX6_lease yX6_lease, Cond.code yX6_lease cX6_lease 4 (some .int), Cond.methodLink RX6 71 yX4_makeLease, Cond.instanceMethod yX4_makeLease, Cond.selects RX4 yX4_makeLease yX4_makeLease, Cond.code yX4_makeLease cX4_makeLease 4 (some .int), Cond.fieldLink RX4 151 "VacantAir$Devices" "end" "[I", Cond.methodLink RX4 139 yX1_has, Cond.instanceMethod yX1_has, Cond.selects RX1 yX1_has yX1_has, Cond.code yX1_has cX1_has 2 (some .boolean), Cond.methodLink RX4 140 yX4_refusal, Cond.instanceMethod yX4_refusal, Cond.selects RX4 yX4_refusal yX4_refusal, Cond.code yX4_refusal cX4_refusal 3 (some .int), Cond.methodLink RX4 189 yX4_isAllowedOnAny, Cond.instanceMethod yX4_isAllowedOnAny, Cond.selects RX4 yX4_isAllowedOnAny yX4_isAllowedOnAny]
def wsL_acts_r12 : List Cond := [Cond.code yX4_isAllowedOnAny cX4_isAllowedOnAny 4 (some .boolean), Cond.methodLink RX4 144 yX4_findOffer, Cond.instanceMethod yX4_findOffer, Cond.selects RX4 yX4_findOffer yX4_findOffer, Cond.code yX4_findOffer cX4_findOffer 7 (some .int), Cond.methodLink RX4 196 yX4_isFree, Cond.instanceMethod yX4_isFree, Cond.selects RX4 yX4_isFree yX4_isFree, Cond.code yX4_isFree cX4_isFree 5 (some .boolean), Cond.methodLink RX4 199 yX1_countOn, Cond.instanceMethod yX1_countOn, Cond.selects RX1 yX1_countOn yX1_countOn, Cond.code yX1_countOn cX1_countOn 4 (some .int), Cond.methodLink RX4 147 yX1_putOn, Cond.instanceMethod yX1_putOn, Cond.selects RX1 yX1_putOn yX1_putOn, Cond.code yX1_putOn cX1_putOn 4 none, Cond.methodLink RL 76 yX6_renew, Cond.instanceMethod yX6_renew, Cond.selects RX6 yX6_renew yX6_renew, Cond.code yX6_renew cX6_renew 3 (some .int), Cond.methodLink RX6 74 yX4_prolongLease, Cond.instanceMethod yX4_prolongLease, Cond.selects RX4 yX4_prolongLease yX4_prolongLease]
def wsL_acts_r13 : List Cond := [Cond.code yX4_prolongLease cX4_prolongLease 3 (some .int), Cond.methodLink RL 79 yX6_giveBack, Cond.instanceMethod yX6_giveBack, Cond.selects RX6 yX6_giveBack yX6_giveBack, Cond.code yX6_giveBack cX6_giveBack 2 (some .int), Cond.methodLink RX6 77 yX4_dropLease, Cond.instanceMethod yX4_dropLease, Cond.selects RX4 yX4_dropLease yX4_dropLease, Cond.code yX4_dropLease cX4_dropLease 2 (some .int), Cond.methodLink RX4 161 yX1_countLeases, Cond.instanceMethod yX1_countLeases, Cond.selects RX1 yX1_countLeases yX1_countLeases, Cond.code yX1_countLeases cX1_countLeases 3 (some .int), Cond.methodLink RX1 46 yX1_hasLease, Cond.methodLink RL 97 yL_leased, Cond.static yL_leased, Cond.code yL_leased cL_leased 13 (some .boolean), Cond.methodLink RL 38 yL_offer, Cond.static yL_offer, Cond.code yL_offer cL_offer 13 (some .int), Cond.methodLink RL 82 yL_leases, Cond.static yL_leases, Cond.code yL_leases cL_leases 4 (some .int), Cond.methodLink RL 100 yL_hour]
def wsL_acts_r14 : List Cond := [Cond.static yL_hour, Cond.code yL_hour cL_hour 10 (some .int), Cond.methodLink RL 104 yX6_pass, Cond.instanceMethod yX6_pass, Cond.selects RX6 yX6_pass yX6_pass, Cond.code yX6_pass cX6_pass 2 (some .int), Cond.methodLink RX6 80 yX4_passHours, Cond.instanceMethod yX4_passHours, Cond.selects RX4 yX4_passHours yX4_passHours, Cond.code yX4_passHours cX4_passHours 4 (some .int), Cond.methodLink RX4 164 yX4_passOneHour, Cond.instanceMethod yX4_passOneHour, Cond.selects RX4 yX4_passOneHour yX4_passOneHour, Cond.code yX4_passOneHour cX4_passOneHour 3 (some .int), Cond.methodLink RX4 167 yX4_endLeases, Cond.instanceMethod yX4_endLeases, Cond.selects RX4 yX4_endLeases yX4_endLeases, Cond.code yX4_endLeases cX4_endLeases 2 none, Cond.methodLink RX4 170 yX4_asksNow, Cond.instanceMethod yX4_asksNow, Cond.selects RX4 yX4_asksNow yX4_asksNow, Cond.code yX4_asksNow cX4_asksNow 2 (some .boolean), Cond.methodLink RX4 173 yX4_hopOrStrike, Cond.instanceMethod yX4_hopOrStrike]
def wsL_acts_r15 : List Cond := [Cond.selects RX4 yX4_hopOrStrike yX4_hopOrStrike, Cond.code yX4_hopOrStrike cX4_hopOrStrike 4 (some .int), Cond.methodLink RX4 177 yX4_cutLeases, Cond.instanceMethod yX4_cutLeases, Cond.selects RX4 yX4_cutLeases yX4_cutLeases, Cond.code yX4_cutLeases cX4_cutLeases 2 none]
def wsL_acts : List Cond := .code yL_acts cL_acts 13 (some .boolean) :: ((wsL_acts_r1 ++ (wsL_acts_r2 ++ (wsL_acts_r3 ++ (wsL_acts_r4 ++ (wsL_acts_r5 ++ (wsL_acts_r6 ++ (wsL_acts_r7 ++ (wsL_acts_r8 ++ (wsL_acts_r9 ++ (wsL_acts_r10 ++ (wsL_acts_r11 ++ (wsL_acts_r12 ++ (wsL_acts_r13 ++ (wsL_acts_r14 ++ wsL_acts_r15)))))))))))))) ++ wsX60 ++ wsX30 ++ wsX40 ++ wsX50 ++ wsX20 ++ wsX10)
def wsL_isSo_r1 : List Cond := [Cond.methodLink RL 26 yL_may, Cond.static yL_may, Cond.initialized RL, Cond.code yL_may cL_may 7 (some .boolean), Cond.methodLink RL 22 yL_allowed, Cond.static yL_allowed, Cond.code yL_allowed cL_allowed 11 (some .boolean), Cond.methodLink RL 9 yL_radius, Cond.static yL_radius, Cond.code yL_radius cL_radius 1 (some .int), Cond.methodLink RL 15 yL_reach, Cond.static yL_reach, Cond.code yL_reach cL_reach 1 (some .int), Cond.methodLink RL 18 yL_near, Cond.static yL_near, Cond.code yL_near cL_near 7 (some .boolean), Cond.methodLink RL 107 yX6_station, Cond.instanceMethod yX6_station, Cond.selects RX6 yX6_station yX6_station, Cond.initialized RX6, Cond.code yX6_station cX6_station 3 (some .int), Cond.fieldLink RX6 10 "VacantAir" "present" "LVacantAir$State;", Cond.fieldLink RX6 132 "VacantAir$State" "stations" "LVacantAir$Stations;", Cond.methodLink RX6 136 yX5_has]
def wsL_isSo_r2 : List Cond := [Cond.instanceMethod yX5_has, Cond.selects RX5 yX5_has yX5_has, Cond.initialized RX5, Cond.code yX5_has cX5_has 2 (some .boolean), Cond.fieldLink RX5 27 "VacantAir$Stations" "count" "I", Cond.methodLink RX6 122 yX6_isOutside, Cond.static yX6_isOutside, Cond.code yX6_isOutside cX6_isOutside 3 (some .boolean), Cond.methodLink RX6 142 yX6_barredAlone, Cond.instanceMethod yX6_barredAlone, Cond.selects RX6 yX6_barredAlone yX6_barredAlone, Cond.code yX6_barredAlone cX6_barredAlone 4 (some .int), Cond.fieldLink RX6 16 "VacantAir" "trial" "LVacantAir$State;", Cond.fieldLink RX6 196 "VacantAir$Stations" "awake" "[I", Cond.fieldLink RX6 157 "VacantAir$State" "devices" "LVacantAir$Devices;", Cond.fieldLink RX6 199 "VacantAir$Devices" "count" "I", Cond.methodLink RX6 126 yX4_copyFrom, Cond.instanceMethod yX4_copyFrom, Cond.selects RX4 yX4_copyFrom yX4_copyFrom, Cond.initialized RX4, Cond.code yX4_copyFrom cX4_copyFrom 2 none, Cond.fieldLink RX4 12 "VacantAir$State" "stations" "LVacantAir$Stations;", Cond.fieldLink RX4 21 "VacantAir$State" "events" "LVacantAir$Events;", Cond.fieldLink RX4 28 "VacantAir$State" "devices" "LVacantAir$Devices;"]
def wsL_isSo_r3 : List Cond := [Cond.fieldLink RX4 32 "VacantAir$State" "settings" "[I", Cond.fieldLink RX4 53 "VacantAir$State" "hour" "I", Cond.fieldLink RX4 57 "VacantAir$State" "reason" "I", Cond.methodLink RX4 39 yX5_copyFrom, Cond.instanceMethod yX5_copyFrom, Cond.selects RX5 yX5_copyFrom yX5_copyFrom, Cond.code yX5_copyFrom cX5_copyFrom 2 none, Cond.fieldLink RX5 9 "VacantAir$Stations" "x" "[I", Cond.fieldLink RX5 15 "VacantAir$Stations" "y" "[I", Cond.fieldLink RX5 18 "VacantAir$Stations" "channel" "[I", Cond.fieldLink RX5 21 "VacantAir$Stations" "powerClass" "[I", Cond.fieldLink RX5 24 "VacantAir$Stations" "awake" "[I", Cond.static yX6_copyRow, Cond.code yX6_copyRow cX6_copyRow 2 none, Cond.methodLink RX6 221 Lib.Math.min.name, Cond.static Lib.Math.min.name, Cond.initialized "java/lang/Math", Cond.code Lib.Math.min.name Lib.Math.min.code 2 (some .int), Cond.methodLink RX6 226 arraycopyName, Cond.native arraycopyName, Cond.static arraycopyName, Cond.initialized "java/lang/System", Cond.methodLink RX4 43 yX2_copyFrom, Cond.instanceMethod yX2_copyFrom]
def wsL_isSo_r4 : List Cond := [Cond.selects RX2 yX2_copyFrom yX2_copyFrom, Cond.initialized RX2, Cond.code yX2_copyFrom cX2_copyFrom 2 none, Cond.fieldLink RX2 9 "VacantAir$Events" "x" "[I", Cond.fieldLink RX2 15 "VacantAir$Events" "y" "[I", Cond.fieldLink RX2 18 "VacantAir$Events" "radius" "[I", Cond.fieldLink RX2 21 "VacantAir$Events" "channel" "[I", Cond.fieldLink RX2 24 "VacantAir$Events" "from" "[I", Cond.fieldLink RX2 27 "VacantAir$Events" "to" "[I", Cond.fieldLink RX2 30 "VacantAir$Events" "cancelled" "[I", Cond.fieldLink RX2 33 "VacantAir$Events" "count" "I", Cond.methodLink RX4 46 yX1_copyFrom, Cond.instanceMethod yX1_copyFrom, Cond.selects RX1 yX1_copyFrom yX1_copyFrom, Cond.initialized RX1, Cond.code yX1_copyFrom cX1_copyFrom 2 none, Cond.fieldLink RX1 9 "VacantAir$Devices" "x" "[I", Cond.fieldLink RX1 15 "VacantAir$Devices" "y" "[I", Cond.fieldLink RX1 18 "VacantAir$Devices" "greatest" "[I", Cond.fieldLink RX1 21 "VacantAir$Devices" "channel" "[I", Cond.fieldLink RX1 24 "VacantAir$Devices" "power" "[I", Cond.fieldLink RX1 27 "VacantAir$Devices" "end" "[I", Cond.fieldLink RX1 30 "VacantAir$Devices" "notice" "[I", Cond.fieldLink RX1 33 "VacantAir$Devices" "hops" "[I"]
def wsL_isSo_r5 : List Cond := [Cond.fieldLink RX1 36 "VacantAir$Devices" "struck" "[I", Cond.fieldLink RX1 39 "VacantAir$Devices" "cut" "[I", Cond.fieldLink RX1 42 "VacantAir$Devices" "count" "I", Cond.methodLink RX6 206 yX1_hasLease, Cond.instanceMethod yX1_hasLease, Cond.selects RX1 yX1_hasLease yX1_hasLease, Cond.code yX1_hasLease cX1_hasLease 2 (some .boolean), Cond.methodLink RX6 218 yX4_leaseIsAllowed, Cond.instanceMethod yX4_leaseIsAllowed, Cond.selects RX4 yX4_leaseIsAllowed yX4_leaseIsAllowed, Cond.code yX4_leaseIsAllowed cX4_leaseIsAllowed 2 (some .boolean), Cond.fieldLink RX4 154 "VacantAir$Devices" "channel" "[I", Cond.fieldLink RX4 186 "VacantAir$Devices" "power" "[I", Cond.fieldLink RX4 106 "VacantAir$Devices" "x" "[I", Cond.fieldLink RX4 107 "VacantAir$Devices" "y" "[I", Cond.methodLink RX4 192 yX4_isAllowed, Cond.instanceMethod yX4_isAllowed, Cond.selects RX4 yX4_isAllowed yX4_isAllowed, Cond.code yX4_isAllowed cX4_isAllowed 7 (some .boolean), Cond.fieldLink RX4 68 "VacantAir$Stations" "count" "I", Cond.fieldLink RX4 71 "VacantAir$Stations" "x" "[I", Cond.fieldLink RX4 74 "VacantAir$Stations" "y" "[I", Cond.fieldLink RX4 86 "VacantAir$Events" "count" "I", Cond.fieldLink RX4 92 "VacantAir$Events" "channel" "[I"]
def wsL_isSo_r6 : List Cond := [Cond.fieldLink RX4 87 "VacantAir$Events" "x" "[I", Cond.fieldLink RX4 88 "VacantAir$Events" "y" "[I", Cond.fieldLink RX4 89 "VacantAir$Events" "radius" "[I", Cond.methodLink RX4 208 yX4_barredRadius, Cond.instanceMethod yX4_barredRadius, Cond.selects RX4 yX4_barredRadius yX4_barredRadius, Cond.code yX4_barredRadius cX4_barredRadius 5 (some .int), Cond.fieldLink RX4 83 "VacantAir$Stations" "awake" "[I", Cond.fieldLink RX4 80 "VacantAir$Stations" "powerClass" "[I", Cond.fieldLink RX4 77 "VacantAir$Stations" "channel" "[I", Cond.static yX6_isWithin, Cond.code yX6_isWithin cX6_isWithin 3 (some .boolean), Cond.methodLink RX4 211 yX2_isOn, Cond.instanceMethod yX2_isOn, Cond.selects RX2 yX2_isOn yX2_isOn, Cond.code yX2_isOn cX2_isOn 3 (some .boolean), Cond.methodLink RX6 145 yX5_tell, Cond.instanceMethod yX5_tell, Cond.selects RX5 yX5_tell yX5_tell, Cond.code yX5_tell cX5_tell 3 (some .int), Cond.methodLink RL 110 yX6_event, Cond.instanceMethod yX6_event, Cond.selects RX6 yX6_event yX6_event, Cond.code yX6_event cX6_event 3 (some .int)]
def wsL_isSo_r7 : List Cond := [Cond.fieldLink RX6 148 "VacantAir$State" "events" "LVacantAir$Events;", Cond.fieldLink RX6 129 "VacantAir$State" "hour" "I", Cond.methodLink RX6 152 yX2_has, Cond.instanceMethod yX2_has, Cond.selects RX2 yX2_has yX2_has, Cond.code yX2_has cX2_has 2 (some .boolean), Cond.methodLink RX6 155 yX2_tell, Cond.instanceMethod yX2_tell, Cond.selects RX2 yX2_tell yX2_tell, Cond.code yX2_tell cX2_tell 4 (some .int), Cond.methodLink RX2 37 yX2_isOn, Cond.methodLink RL 113 yX6_device, Cond.instanceMethod yX6_device, Cond.selects RX6 yX6_device yX6_device, Cond.code yX6_device cX6_device 3 (some .int), Cond.methodLink RX6 161 yX1_has, Cond.instanceMethod yX1_has, Cond.selects RX1 yX1_has yX1_has, Cond.code yX1_has cX1_has 2 (some .boolean), Cond.methodLink RX6 164 yX4_nextAsking, Cond.instanceMethod yX4_nextAsking, Cond.selects RX4 yX4_nextAsking yX4_nextAsking, Cond.code yX4_nextAsking cX4_nextAsking 2 (some .int), Cond.methodLink RX6 167 yX1_tell]
def wsL_isSo_r8 : List Cond := [Cond.instanceMethod yX1_tell, Cond.selects RX1 yX1_tell yX1_tell, Cond.code yX1_tell cX1_tell 3 (some .int), Cond.methodLink RX1 46 yX1_hasLease, Cond.methodLink RX1 50 yX1_hasNotice, Cond.instanceMethod yX1_hasNotice, Cond.selects RX1 yX1_hasNotice yX1_hasNotice, Cond.code yX1_hasNotice cX1_hasNotice 2 (some .boolean), Cond.methodLink RL 116 yX6_leases, Cond.instanceMethod yX6_leases, Cond.selects RX6 yX6_leases yX6_leases, Cond.code yX6_leases cX6_leases 2 (some .int), Cond.methodLink RX6 182 yX1_countOn, Cond.instanceMethod yX1_countOn, Cond.selects RX1 yX1_countOn yX1_countOn, Cond.code yX1_countOn cX1_countOn 4 (some .int), Cond.methodLink RL 82 yL_leases, Cond.static yL_leases, Cond.code yL_leases cL_leases 4 (some .int), Cond.methodLink RL 118 yX6_total, Cond.instanceMethod yX6_total, Cond.selects RX6 yX6_total yX6_total, Cond.code yX6_total cX6_total 2 (some .int), Cond.fieldLink RX6 22 "VacantAir" "history" "LVacantAir$History;"]
def wsL_isSo_r9 : List Cond := [Cond.fieldLink RX6 116 "VacantAir$History" "count" "I", Cond.fieldLink RX6 37 "VacantAir" "text" "LVacantAir$ActText;", Cond.fieldLink RX6 185 "VacantAir$ActText" "length" "I", Cond.methodLink RX6 188 yX4_tellTotal, Cond.instanceMethod yX4_tellTotal, Cond.selects RX4 yX4_tellTotal yX4_tellTotal, Cond.code yX4_tellTotal cX4_tellTotal 2 (some .int), Cond.fieldLink RX4 105 "VacantAir$Devices" "count" "I", Cond.fieldLink RX4 111 "VacantAir$Devices" "hops" "[I", Cond.fieldLink RX4 114 "VacantAir$Devices" "struck" "[I", Cond.fieldLink RX4 117 "VacantAir$Devices" "cut" "[I", Cond.methodLink RX4 217 yX5_countAwake, Cond.instanceMethod yX5_countAwake, Cond.selects RX5 yX5_countAwake yX5_countAwake, Cond.code yX5_countAwake cX5_countAwake 3 (some .int), Cond.methodLink RX4 161 yX1_countLeases, Cond.instanceMethod yX1_countLeases, Cond.selects RX1 yX1_countLeases yX1_countLeases, Cond.code yX1_countLeases cX1_countLeases 3 (some .int), Cond.methodLink RX4 134 yX1_countNotices, Cond.instanceMethod yX1_countNotices, Cond.selects RX1 yX1_countNotices yX1_countNotices, Cond.code yX1_countNotices cX1_countNotices 3 (some .int), Cond.methodLink RX4 220 yX1_sumOf]
def wsL_isSo_r10 : List Cond := [Cond.instanceMethod yX1_sumOf, Cond.selects RX1 yX1_sumOf yX1_sumOf, Cond.code yX1_sumOf cX1_sumOf 4 (some .int), Cond.methodLink RL 62 yL_notices, Cond.static yL_notices, Cond.code yL_notices cL_notices 4 (some .int)]
def wsL_isSo : List Cond := .code yL_isSo cL_isSo 16 (some .boolean) :: ((wsL_isSo_r1 ++ (wsL_isSo_r2 ++ (wsL_isSo_r3 ++ (wsL_isSo_r4 ++ (wsL_isSo_r5 ++ (wsL_isSo_r6 ++ (wsL_isSo_r7 ++ (wsL_isSo_r8 ++ (wsL_isSo_r9 ++ wsL_isSo_r10))))))))) ++ wsX60 ++ wsX40 ++ wsX50 ++ wsX10 ++ wsX20 ++ wsX30 ++ wsX00)
def wsL_law_r1 : List Cond := [Cond.classLink RL 43 RX6, Cond.instantiable RX6 6, Cond.initialized RX6, Cond.arrayClass .int, Cond.constant RL 8 (2147483647), Cond.methodLink RL 121 yX6_init, Cond.instanceMethod yX6_init, Cond.code yX6_init cX6_init 2 none, Cond.methodLink RX6 1 objectInit, Cond.instanceMethod objectInit, Cond.code objectInit ⟨#[0xb1]⟩ 1 none, Cond.classLink RX6 7 RX4, Cond.instantiable RX4 6, Cond.initialized RX4, Cond.fieldLink RX6 10 "VacantAir" "present" "LVacantAir$State;", Cond.fieldLink RX6 16 "VacantAir" "trial" "LVacantAir$State;", Cond.classLink RX6 19 RX3, Cond.instantiable RX3 3, Cond.initialized RX3, Cond.fieldLink RX6 22 "VacantAir" "history" "LVacantAir$History;", Cond.fieldLink RX6 26 "VacantAir" "slots" "[LVacantAir$State;", Cond.arrayClass .boolean, Cond.fieldLink RX6 30 "VacantAir" "slotHolds" "[Z", Cond.classLink RX6 34 RX0]
def wsL_law_r2 : List Cond := [Cond.instantiable RX0 8, Cond.initialized RX0, Cond.fieldLink RX6 37 "VacantAir" "text" "LVacantAir$ActText;", Cond.methodLink RX6 9 yX4_init, Cond.instanceMethod yX4_init, Cond.code yX4_init cX4_init 2 none, Cond.methodLink RX4 3 objectInit, Cond.classLink RX4 9 RX5, Cond.instantiable RX5 6, Cond.initialized RX5, Cond.fieldLink RX4 12 "VacantAir$State" "stations" "LVacantAir$Stations;", Cond.classLink RX4 18 RX2, Cond.instantiable RX2 8, Cond.initialized RX2, Cond.fieldLink RX4 21 "VacantAir$State" "events" "LVacantAir$Events;", Cond.classLink RX4 25 RX1, Cond.instantiable RX1 11, Cond.initialized RX1, Cond.fieldLink RX4 28 "VacantAir$State" "devices" "LVacantAir$Devices;", Cond.fieldLink RX4 32 "VacantAir$State" "settings" "[I", Cond.instanceMethod yX5_init, Cond.code yX5_init cX5_init 1 none, Cond.methodLink RX5 3 objectInit, Cond.fieldLink RX5 9 "VacantAir$Stations" "x" "[I"]
def wsL_law_r3 : List Cond := [Cond.fieldLink RX5 15 "VacantAir$Stations" "y" "[I", Cond.fieldLink RX5 18 "VacantAir$Stations" "channel" "[I", Cond.fieldLink RX5 21 "VacantAir$Stations" "powerClass" "[I", Cond.fieldLink RX5 24 "VacantAir$Stations" "awake" "[I", Cond.instanceMethod yX2_init, Cond.code yX2_init cX2_init 1 none, Cond.methodLink RX2 3 objectInit, Cond.fieldLink RX2 9 "VacantAir$Events" "x" "[I", Cond.fieldLink RX2 15 "VacantAir$Events" "y" "[I", Cond.fieldLink RX2 18 "VacantAir$Events" "radius" "[I", Cond.fieldLink RX2 21 "VacantAir$Events" "channel" "[I", Cond.fieldLink RX2 24 "VacantAir$Events" "from" "[I", Cond.fieldLink RX2 27 "VacantAir$Events" "to" "[I", Cond.fieldLink RX2 30 "VacantAir$Events" "cancelled" "[I", Cond.instanceMethod yX1_init, Cond.code yX1_init cX1_init 1 none, Cond.methodLink RX1 3 objectInit, Cond.fieldLink RX1 9 "VacantAir$Devices" "x" "[I", Cond.fieldLink RX1 15 "VacantAir$Devices" "y" "[I", Cond.fieldLink RX1 18 "VacantAir$Devices" "greatest" "[I", Cond.fieldLink RX1 21 "VacantAir$Devices" "channel" "[I", Cond.fieldLink RX1 24 "VacantAir$Devices" "power" "[I", Cond.fieldLink RX1 27 "VacantAir$Devices" "end" "[I", Cond.fieldLink RX1 30 "VacantAir$Devices" "notice" "[I"]
def wsL_law_r4 : List Cond := [Cond.fieldLink RX1 33 "VacantAir$Devices" "hops" "[I", Cond.fieldLink RX1 36 "VacantAir$Devices" "struck" "[I", Cond.fieldLink RX1 39 "VacantAir$Devices" "cut" "[I", Cond.methodLink RX6 21 yX3_init, Cond.instanceMethod yX3_init, Cond.code yX3_init cX3_init 2 none, Cond.methodLink RX3 3 objectInit, Cond.classLink RX3 9 RX4, Cond.fieldLink RX3 11 "VacantAir$History" "ring" "[LVacantAir$State;", Cond.methodLink RX3 17 yX4_init, Cond.instanceMethod yX0_init, Cond.code yX0_init cX0_init 1 none, Cond.methodLink RX0 3 objectInit, Cond.fieldLink RX0 9 "VacantAir$ActText" "bytes" "[I", Cond.fieldLink RX0 15 "VacantAir$ActText" "fault" "I", Cond.methodLink RL 122 yL_isSo, Cond.static yL_isSo, Cond.initialized RL, Cond.code yL_isSo cL_isSo 16 (some .boolean), Cond.methodLink RL 26 yL_may, Cond.static yL_may, Cond.code yL_may cL_may 7 (some .boolean), Cond.methodLink RL 22 yL_allowed, Cond.static yL_allowed]
def wsL_law_r5 : List Cond := [Cond.code yL_allowed cL_allowed 11 (some .boolean), Cond.methodLink RL 9 yL_radius, Cond.static yL_radius, Cond.code yL_radius cL_radius 1 (some .int), Cond.methodLink RL 15 yL_reach, Cond.static yL_reach, Cond.code yL_reach cL_reach 1 (some .int), Cond.methodLink RL 18 yL_near, Cond.static yL_near, Cond.code yL_near cL_near 7 (some .boolean), Cond.methodLink RL 107 yX6_station, Cond.instanceMethod yX6_station, Cond.selects RX6 yX6_station yX6_station, Cond.code yX6_station cX6_station 3 (some .int), Cond.fieldLink RX6 132 "VacantAir$State" "stations" "LVacantAir$Stations;", Cond.methodLink RX6 136 yX5_has, Cond.instanceMethod yX5_has, Cond.selects RX5 yX5_has yX5_has, Cond.code yX5_has cX5_has 2 (some .boolean), Cond.fieldLink RX5 27 "VacantAir$Stations" "count" "I", Cond.methodLink RX6 122 yX6_isOutside, Cond.static yX6_isOutside, Cond.code yX6_isOutside cX6_isOutside 3 (some .boolean), Cond.methodLink RX6 142 yX6_barredAlone]
def wsL_law_r6 : List Cond := [Cond.instanceMethod yX6_barredAlone, Cond.selects RX6 yX6_barredAlone yX6_barredAlone, Cond.code yX6_barredAlone cX6_barredAlone 4 (some .int), Cond.fieldLink RX6 196 "VacantAir$Stations" "awake" "[I", Cond.fieldLink RX6 157 "VacantAir$State" "devices" "LVacantAir$Devices;", Cond.fieldLink RX6 199 "VacantAir$Devices" "count" "I", Cond.methodLink RX6 126 yX4_copyFrom, Cond.instanceMethod yX4_copyFrom, Cond.selects RX4 yX4_copyFrom yX4_copyFrom, Cond.code yX4_copyFrom cX4_copyFrom 2 none, Cond.fieldLink RX4 53 "VacantAir$State" "hour" "I", Cond.fieldLink RX4 57 "VacantAir$State" "reason" "I", Cond.methodLink RX4 39 yX5_copyFrom, Cond.instanceMethod yX5_copyFrom, Cond.selects RX5 yX5_copyFrom yX5_copyFrom, Cond.code yX5_copyFrom cX5_copyFrom 2 none, Cond.static yX6_copyRow, Cond.code yX6_copyRow cX6_copyRow 2 none, Cond.methodLink RX6 221 Lib.Math.min.name, Cond.static Lib.Math.min.name, Cond.initialized "java/lang/Math", Cond.code Lib.Math.min.name Lib.Math.min.code 2 (some .int), Cond.methodLink RX6 226 arraycopyName, Cond.native arraycopyName]
def wsL_law_r7 : List Cond := [Cond.static arraycopyName, Cond.initialized "java/lang/System", Cond.methodLink RX4 43 yX2_copyFrom, Cond.instanceMethod yX2_copyFrom, Cond.selects RX2 yX2_copyFrom yX2_copyFrom, Cond.code yX2_copyFrom cX2_copyFrom 2 none, Cond.fieldLink RX2 33 "VacantAir$Events" "count" "I", Cond.methodLink RX4 46 yX1_copyFrom, Cond.instanceMethod yX1_copyFrom, Cond.selects RX1 yX1_copyFrom yX1_copyFrom, Cond.code yX1_copyFrom cX1_copyFrom 2 none, Cond.fieldLink RX1 42 "VacantAir$Devices" "count" "I", Cond.methodLink RX6 206 yX1_hasLease, Cond.instanceMethod yX1_hasLease, Cond.selects RX1 yX1_hasLease yX1_hasLease, Cond.code yX1_hasLease cX1_hasLease 2 (some .boolean), Cond.methodLink RX6 218 yX4_leaseIsAllowed, Cond.instanceMethod yX4_leaseIsAllowed, Cond.selects RX4 yX4_leaseIsAllowed yX4_leaseIsAllowed, Cond.code yX4_leaseIsAllowed cX4_leaseIsAllowed 2 (some .boolean), Cond.fieldLink RX4 154 "VacantAir$Devices" "channel" "[I", Cond.fieldLink RX4 186 "VacantAir$Devices" "power" "[I", Cond.fieldLink RX4 106 "VacantAir$Devices" "x" "[I", Cond.fieldLink RX4 107 "VacantAir$Devices" "y" "[I"]
def wsL_law_r8 : List Cond := [Cond.methodLink RX4 192 yX4_isAllowed, Cond.instanceMethod yX4_isAllowed, Cond.selects RX4 yX4_isAllowed yX4_isAllowed, Cond.code yX4_isAllowed cX4_isAllowed 7 (some .boolean), Cond.fieldLink RX4 68 "VacantAir$Stations" "count" "I", Cond.fieldLink RX4 71 "VacantAir$Stations" "x" "[I", Cond.fieldLink RX4 74 "VacantAir$Stations" "y" "[I", Cond.fieldLink RX4 86 "VacantAir$Events" "count" "I", Cond.fieldLink RX4 92 "VacantAir$Events" "channel" "[I", Cond.fieldLink RX4 87 "VacantAir$Events" "x" "[I", Cond.fieldLink RX4 88 "VacantAir$Events" "y" "[I", Cond.fieldLink RX4 89 "VacantAir$Events" "radius" "[I", Cond.methodLink RX4 208 yX4_barredRadius, Cond.instanceMethod yX4_barredRadius, Cond.selects RX4 yX4_barredRadius yX4_barredRadius, Cond.code yX4_barredRadius cX4_barredRadius 5 (some .int), Cond.fieldLink RX4 83 "VacantAir$Stations" "awake" "[I", Cond.fieldLink RX4 80 "VacantAir$Stations" "powerClass" "[I", Cond.fieldLink RX4 77 "VacantAir$Stations" "channel" "[I", Cond.static yX6_isWithin, Cond.code yX6_isWithin cX6_isWithin 3 (some .boolean), Cond.methodLink RX4 211 yX2_isOn, Cond.instanceMethod yX2_isOn, Cond.selects RX2 yX2_isOn yX2_isOn]
def wsL_law_r9 : List Cond := [Cond.code yX2_isOn cX2_isOn 3 (some .boolean), Cond.methodLink RX6 145 yX5_tell, Cond.instanceMethod yX5_tell, Cond.selects RX5 yX5_tell yX5_tell, Cond.code yX5_tell cX5_tell 3 (some .int), Cond.methodLink RL 110 yX6_event, Cond.instanceMethod yX6_event, Cond.selects RX6 yX6_event yX6_event, Cond.code yX6_event cX6_event 3 (some .int), Cond.fieldLink RX6 148 "VacantAir$State" "events" "LVacantAir$Events;", Cond.fieldLink RX6 129 "VacantAir$State" "hour" "I", Cond.methodLink RX6 152 yX2_has, Cond.instanceMethod yX2_has, Cond.selects RX2 yX2_has yX2_has, Cond.code yX2_has cX2_has 2 (some .boolean), Cond.methodLink RX6 155 yX2_tell, Cond.instanceMethod yX2_tell, Cond.selects RX2 yX2_tell yX2_tell, Cond.code yX2_tell cX2_tell 4 (some .int), Cond.methodLink RX2 37 yX2_isOn, Cond.methodLink RL 113 yX6_device, Cond.instanceMethod yX6_device, Cond.selects RX6 yX6_device yX6_device, Cond.code yX6_device cX6_device 3 (some .int)]
def wsL_law_r10 : List Cond := [Cond.methodLink RX6 161 yX1_has, Cond.instanceMethod yX1_has, Cond.selects RX1 yX1_has yX1_has, Cond.code yX1_has cX1_has 2 (some .boolean), Cond.methodLink RX6 164 yX4_nextAsking, Cond.instanceMethod yX4_nextAsking, Cond.selects RX4 yX4_nextAsking yX4_nextAsking, Cond.code yX4_nextAsking cX4_nextAsking 2 (some .int), Cond.methodLink RX6 167 yX1_tell, Cond.instanceMethod yX1_tell, Cond.selects RX1 yX1_tell yX1_tell, Cond.code yX1_tell cX1_tell 3 (some .int), Cond.methodLink RX1 46 yX1_hasLease, Cond.methodLink RX1 50 yX1_hasNotice, Cond.instanceMethod yX1_hasNotice, Cond.selects RX1 yX1_hasNotice yX1_hasNotice, Cond.code yX1_hasNotice cX1_hasNotice 2 (some .boolean), Cond.methodLink RL 116 yX6_leases, Cond.instanceMethod yX6_leases, Cond.selects RX6 yX6_leases yX6_leases, Cond.code yX6_leases cX6_leases 2 (some .int), Cond.methodLink RX6 182 yX1_countOn, Cond.instanceMethod yX1_countOn, Cond.selects RX1 yX1_countOn yX1_countOn]
def wsL_law_r11 : List Cond := [Cond.code yX1_countOn cX1_countOn 4 (some .int), Cond.methodLink RL 82 yL_leases, Cond.static yL_leases, Cond.code yL_leases cL_leases 4 (some .int), Cond.methodLink RL 118 yX6_total, Cond.instanceMethod yX6_total, Cond.selects RX6 yX6_total yX6_total, Cond.code yX6_total cX6_total 2 (some .int), Cond.fieldLink RX6 116 "VacantAir$History" "count" "I", Cond.fieldLink RX6 185 "VacantAir$ActText" "length" "I", Cond.methodLink RX6 188 yX4_tellTotal, Cond.instanceMethod yX4_tellTotal, Cond.selects RX4 yX4_tellTotal yX4_tellTotal, Cond.code yX4_tellTotal cX4_tellTotal 2 (some .int), Cond.fieldLink RX4 105 "VacantAir$Devices" "count" "I", Cond.fieldLink RX4 111 "VacantAir$Devices" "hops" "[I", Cond.fieldLink RX4 114 "VacantAir$Devices" "struck" "[I", Cond.fieldLink RX4 117 "VacantAir$Devices" "cut" "[I", Cond.methodLink RX4 217 yX5_countAwake, Cond.instanceMethod yX5_countAwake, Cond.selects RX5 yX5_countAwake yX5_countAwake, Cond.code yX5_countAwake cX5_countAwake 3 (some .int), Cond.methodLink RX4 161 yX1_countLeases, Cond.instanceMethod yX1_countLeases]
def wsL_law_r12 : List Cond := [Cond.selects RX1 yX1_countLeases yX1_countLeases, Cond.code yX1_countLeases cX1_countLeases 3 (some .int), Cond.methodLink RX4 134 yX1_countNotices, Cond.instanceMethod yX1_countNotices, Cond.selects RX1 yX1_countNotices yX1_countNotices, Cond.code yX1_countNotices cX1_countNotices 3 (some .int), Cond.methodLink RX4 220 yX1_sumOf, Cond.instanceMethod yX1_sumOf, Cond.selects RX1 yX1_sumOf yX1_sumOf, Cond.code yX1_sumOf cX1_sumOf 4 (some .int), Cond.methodLink RL 62 yL_notices, Cond.static yL_notices, Cond.code yL_notices cL_notices 4 (some .int), Cond.methodLink RL 126 yL_cell, Cond.static yL_cell, Cond.code yL_cell cL_cell 2 (some .int), Cond.constant RL 7 (40503), Cond.methodLink RL 130 yL_acts, Cond.static yL_acts, Cond.code yL_acts cL_acts 13 (some .boolean), Cond.constant RL 85 (10000000), Cond.methodLink RL 86 yL_low, Cond.static yL_low, Cond.code yL_low cL_low 2 (some .int)]
def wsL_law_r13 : List Cond := [Cond.methodLink RL 89 yL_adds, Cond.static yL_adds, Cond.code yL_adds cL_adds 15 (some .boolean), Cond.methodLink RL 42 yX6_addStation, Cond.instanceMethod yX6_addStation, Cond.selects RX6 yX6_addStation yX6_addStation, Cond.code yX6_addStation cX6_addStation 5 (some .int), Cond.methodLink RX6 41 yX3_note, Cond.instanceMethod yX3_note, Cond.selects RX3 yX3_note yX3_note, Cond.code yX3_note cX3_note 2 none, Cond.fieldLink RX3 18 "VacantAir$History" "oldest" "I", Cond.fieldLink RX3 22 "VacantAir$History" "count" "I", Cond.methodLink RX3 25 yX4_copyFrom, Cond.methodLink RX6 45 yX4_putStation, Cond.instanceMethod yX4_putStation, Cond.selects RX4 yX4_putStation yX4_putStation, Cond.code yX4_putStation cX4_putStation 6 (some .int), Cond.static yX6_isNoPlace, Cond.code yX6_isNoPlace cX6_isNoPlace 2 (some .boolean), Cond.methodLink RX6 49 yX6_recorded, Cond.instanceMethod yX6_recorded, Cond.selects RX6 yX6_recorded yX6_recorded, Cond.code yX6_recorded cX6_recorded 2 (some .int)]
def wsL_law_r14 : List Cond := [Cond.methodLink RX6 215 yX3_keepNoted, Cond.instanceMethod yX3_keepNoted, Cond.selects RX3 yX3_keepNoted yX3_keepNoted, Cond.code yX3_keepNoted cX3_keepNoted 1 none, Cond.methodLink RL 48 yX6_addEvent, Cond.instanceMethod yX6_addEvent, Cond.selects RX6 yX6_addEvent yX6_addEvent, Cond.code yX6_addEvent cX6_addEvent 7 (some .int), Cond.methodLink RX6 53 yX4_putEvent, Cond.instanceMethod yX4_putEvent, Cond.selects RX4 yX4_putEvent yX4_putEvent, Cond.code yX4_putEvent cX4_putEvent 8 (some .int), Cond.fieldLink RX4 93 "VacantAir$Events" "from" "[I", Cond.fieldLink RX4 96 "VacantAir$Events" "to" "[I", Cond.fieldLink RX4 99 "VacantAir$Events" "cancelled" "[I", Cond.methodLink RX4 102 yX4_review, Cond.instanceMethod yX4_review, Cond.selects RX4 yX4_review yX4_review, Cond.code yX4_review cX4_review 2 none, Cond.fieldLink RX4 183 "VacantAir$Devices" "notice" "[I", Cond.methodLink RX4 155 yX1_hasLease, Cond.methodLink RX4 180 yX4_leaseIsAllowed, Cond.methodLink RX4 158 yX1_hasNotice, Cond.methodLink RL 34 yL_review]
def wsL_law_r15 : List Cond := [Cond.static yL_review, Cond.code yL_review cL_review 7 none, Cond.methodLink RL 52 yX6_addDevice, Cond.instanceMethod yX6_addDevice, Cond.selects RX6 yX6_addDevice yX6_addDevice, Cond.code yX6_addDevice cX6_addDevice 4 (some .int), Cond.methodLink RX6 57 yX4_putDevice, Cond.instanceMethod yX4_putDevice, Cond.selects RX4 yX4_putDevice yX4_putDevice, Cond.code yX4_putDevice cX4_putDevice 5 (some .int), Cond.fieldLink RX4 108 "VacantAir$Devices" "greatest" "[I", Cond.methodLink RX4 120 yX1_removeLease, Cond.instanceMethod yX1_removeLease, Cond.selects RX1 yX1_removeLease yX1_removeLease, Cond.code yX1_removeLease cX1_removeLease 2 none, Cond.methodLink RL 30 yL_ends, Cond.static yL_ends, Cond.code yL_ends cL_ends 4 none, Cond.methodLink RL 93 yL_turns, Cond.static yL_turns, Cond.code yL_turns cL_turns 10 (some .boolean), Cond.methodLink RL 56 yX6_wake, Cond.instanceMethod yX6_wake, Cond.selects RX6 yX6_wake yX6_wake]
def wsL_law_r16 : List Cond := [Cond.code yX6_wake cX6_wake 2 (some .int), Cond.methodLink RX6 65 yX4_turnStation, Cond.instanceMethod yX4_turnStation, Cond.selects RX4 yX4_turnStation yX4_turnStation, Cond.code yX4_turnStation cX4_turnStation 3 (some .int), Cond.methodLink RX4 130 yX5_has, Cond.methodLink RL 59 yX6_sleep, Cond.instanceMethod yX6_sleep, Cond.selects RX6 yX6_sleep yX6_sleep, Cond.code yX6_sleep cX6_sleep 2 (some .int), Cond.methodLink RL 66 yX6_cancel, Cond.instanceMethod yX6_cancel, Cond.selects RX6 yX6_cancel yX6_cancel, Cond.code yX6_cancel cX6_cancel 2 (some .int), Cond.methodLink RX6 68 yX4_callOff, Cond.instanceMethod yX4_callOff, Cond.selects RX4 yX4_callOff yX4_callOff, Cond.code yX4_callOff cX4_callOff 2 (some .int), Cond.methodLink RX4 138 yX2_has, Cond.methodLink RL 69 yX6_set, Cond.instanceMethod yX6_set, Cond.selects RX6 yX6_set yX6_set, Cond.code yX6_set cX6_set 3 (some .int), Cond.methodLink RX6 61 yX4_change]
def wsL_law_r17 : List Cond := [Cond.instanceMethod yX4_change, Cond.selects RX4 yX4_change yX4_change, Cond.code yX4_change cX4_change 4 (some .int), Cond.methodLink RL 73 yX6_lease, Cond.instanceMethod yX6_lease, Cond.selects RX6 yX6_lease yX6_lease, Cond.code yX6_lease cX6_lease 4 (some .int), Cond.methodLink RX6 71 yX4_makeLease, Cond.instanceMethod yX4_makeLease, Cond.selects RX4 yX4_makeLease yX4_makeLease, Cond.code yX4_makeLease cX4_makeLease 4 (some .int), Cond.fieldLink RX4 151 "VacantAir$Devices" "end" "[I", Cond.methodLink RX4 139 yX1_has, Cond.methodLink RX4 140 yX4_refusal, Cond.instanceMethod yX4_refusal, Cond.selects RX4 yX4_refusal yX4_refusal, Cond.code yX4_refusal cX4_refusal 3 (some .int), Cond.methodLink RX4 189 yX4_isAllowedOnAny, Cond.instanceMethod yX4_isAllowedOnAny, Cond.selects RX4 yX4_isAllowedOnAny yX4_isAllowedOnAny, Cond.code yX4_isAllowedOnAny cX4_isAllowedOnAny 4 (some .boolean), Cond.methodLink RX4 144 yX4_findOffer, Cond.instanceMethod yX4_findOffer, Cond.selects RX4 yX4_findOffer yX4_findOffer]
def wsL_law_r18 : List Cond := [Cond.code yX4_findOffer cX4_findOffer 7 (some .int), Cond.methodLink RX4 196 yX4_isFree, Cond.instanceMethod yX4_isFree, Cond.selects RX4 yX4_isFree yX4_isFree, Cond.code yX4_isFree cX4_isFree 5 (some .boolean), Cond.methodLink RX4 199 yX1_countOn, Cond.methodLink RX4 147 yX1_putOn, Cond.instanceMethod yX1_putOn, Cond.selects RX1 yX1_putOn yX1_putOn, Cond.code yX1_putOn cX1_putOn 4 none, Cond.methodLink RL 76 yX6_renew, Cond.instanceMethod yX6_renew, Cond.selects RX6 yX6_renew yX6_renew, Cond.code yX6_renew cX6_renew 3 (some .int), Cond.methodLink RX6 74 yX4_prolongLease, Cond.instanceMethod yX4_prolongLease, Cond.selects RX4 yX4_prolongLease yX4_prolongLease, Cond.code yX4_prolongLease cX4_prolongLease 3 (some .int), Cond.methodLink RL 79 yX6_giveBack, Cond.instanceMethod yX6_giveBack, Cond.selects RX6 yX6_giveBack yX6_giveBack, Cond.code yX6_giveBack cX6_giveBack 2 (some .int), Cond.methodLink RX6 77 yX4_dropLease, Cond.instanceMethod yX4_dropLease]
def wsL_law_r19 : List Cond := [Cond.selects RX4 yX4_dropLease yX4_dropLease, Cond.code yX4_dropLease cX4_dropLease 2 (some .int), Cond.methodLink RL 97 yL_leased, Cond.static yL_leased, Cond.code yL_leased cL_leased 13 (some .boolean), Cond.methodLink RL 38 yL_offer, Cond.static yL_offer, Cond.code yL_offer cL_offer 13 (some .int), Cond.methodLink RL 100 yL_hour, Cond.static yL_hour, Cond.code yL_hour cL_hour 10 (some .int), Cond.methodLink RL 104 yX6_pass, Cond.instanceMethod yX6_pass, Cond.selects RX6 yX6_pass yX6_pass, Cond.code yX6_pass cX6_pass 2 (some .int), Cond.methodLink RX6 80 yX4_passHours, Cond.instanceMethod yX4_passHours, Cond.selects RX4 yX4_passHours yX4_passHours, Cond.code yX4_passHours cX4_passHours 4 (some .int), Cond.methodLink RX4 164 yX4_passOneHour, Cond.instanceMethod yX4_passOneHour, Cond.selects RX4 yX4_passOneHour yX4_passOneHour, Cond.code yX4_passOneHour cX4_passOneHour 3 (some .int), Cond.methodLink RX4 167 yX4_endLeases]
def wsL_law_r20 : List Cond := [Cond.instanceMethod yX4_endLeases, Cond.selects RX4 yX4_endLeases yX4_endLeases, Cond.code yX4_endLeases cX4_endLeases 2 none, Cond.methodLink RX4 170 yX4_asksNow, Cond.instanceMethod yX4_asksNow, Cond.selects RX4 yX4_asksNow yX4_asksNow, Cond.code yX4_asksNow cX4_asksNow 2 (some .boolean), Cond.methodLink RX4 173 yX4_hopOrStrike, Cond.instanceMethod yX4_hopOrStrike, Cond.selects RX4 yX4_hopOrStrike yX4_hopOrStrike, Cond.code yX4_hopOrStrike cX4_hopOrStrike 4 (some .int), Cond.methodLink RX4 177 yX4_cutLeases, Cond.instanceMethod yX4_cutLeases, Cond.selects RX4 yX4_cutLeases yX4_cutLeases, Cond.code yX4_cutLeases cX4_cutLeases 2 none]
def wsL_law : List Cond := (wsL_law_r1 ++ (wsL_law_r2 ++ (wsL_law_r3 ++ (wsL_law_r4 ++ (wsL_law_r5 ++ (wsL_law_r6 ++ (wsL_law_r7 ++ (wsL_law_r8 ++ (wsL_law_r9 ++ (wsL_law_r10 ++ (wsL_law_r11 ++ (wsL_law_r12 ++ (wsL_law_r13 ++ (wsL_law_r14 ++ (wsL_law_r15 ++ (wsL_law_r16 ++ (wsL_law_r17 ++ (wsL_law_r18 ++ (wsL_law_r19 ++ wsL_law_r20))))))))))))))))))) ++ wsX60 ++ wsX40 ++ wsX30 ++ wsX00 ++ wsX50 ++ wsX20 ++ wsX10 ++ ([] : List Cond)
set_option maxRecDepth 20000 in
theorem wsL_in_1 : ∀ w ∈ wsL_law_r1, w ∈ lw_tbl := fun w h => (goodIn_p wsL_law_r1 [25, 28] (by decide +kernel) (by decide +kernel) w h).1
set_option maxRecDepth 20000 in
theorem wsL_in_2 : ∀ w ∈ wsL_law_r2, w ∈ lw_tbl := fun w h => (goodIn_p wsL_law_r2 [33, 39] (by decide +kernel) (by decide +kernel) w h).1
set_option maxRecDepth 20000 in
theorem wsL_in_3 : ∀ w ∈ wsL_law_r3, w ∈ lw_tbl := fun w h => (goodIn_p wsL_law_r3 [72, 111] (by decide +kernel) (by decide +kernel) w h).1
set_option maxRecDepth 20000 in
theorem wsL_in_4_0 : ∀ w ∈ ([Cond.fieldLink RX1 33 "VacantAir$Devices" "hops" "[I", Cond.fieldLink RX1 36 "VacantAir$Devices" "struck" "[I", Cond.fieldLink RX1 39 "VacantAir$Devices" "cut" "[I", Cond.methodLink RX6 21 yX3_init, Cond.instanceMethod yX3_init, Cond.code yX3_init cX3_init 2 none, Cond.methodLink RX3 3 objectInit, Cond.classLink RX3 9 RX4, Cond.fieldLink RX3 11 "VacantAir$History" "ring" "[LVacantAir$State;", Cond.methodLink RX3 17 yX4_init, Cond.instanceMethod yX0_init, Cond.code yX0_init cX0_init 1 none, Cond.methodLink RX0 3 objectInit, Cond.fieldLink RX0 9 "VacantAir$ActText" "bytes" "[I", Cond.fieldLink RX0 15 "VacantAir$ActText" "fault" "I", Cond.methodLink RL 122 yL_isSo, Cond.static yL_isSo, Cond.initialized RL] : List Cond), w ∈ lw_tbl := (fun w h => (goodIn_p [Cond.fieldLink RX1 33 "VacantAir$Devices" "hops" "[I", Cond.fieldLink RX1 36 "VacantAir$Devices" "struck" "[I", Cond.fieldLink RX1 39 "VacantAir$Devices" "cut" "[I", Cond.methodLink RX6 21 yX3_init, Cond.instanceMethod yX3_init, Cond.code yX3_init cX3_init 2 none, Cond.methodLink RX3 3 objectInit, Cond.classLink RX3 9 RX4, Cond.fieldLink RX3 11 "VacantAir$History" "ring" "[LVacantAir$State;", Cond.methodLink RX3 17 yX4_init, Cond.instanceMethod yX0_init, Cond.code yX0_init cX0_init 1 none, Cond.methodLink RX0 3 objectInit, Cond.fieldLink RX0 9 "VacantAir$ActText" "bytes" "[I", Cond.fieldLink RX0 15 "VacantAir$ActText" "fault" "I", Cond.methodLink RL 122 yL_isSo, Cond.static yL_isSo, Cond.initialized RL] [188, 208] (by decide +kernel) (by decide +kernel) w h).1)
set_option maxRecDepth 20000 in
theorem wsL_in_4_1 : ∀ w ∈ ([Cond.methodLink RL 26 yL_may, Cond.static yL_may, Cond.code yL_may cL_may 7 (some .boolean), Cond.methodLink RL 22 yL_allowed, Cond.static yL_allowed] : List Cond), w ∈ lw_tbl := (fun w h => (goodIn_p [Cond.methodLink RL 26 yL_may, Cond.static yL_may, Cond.code yL_may cL_may 7 (some .boolean), Cond.methodLink RL 22 yL_allowed, Cond.static yL_allowed] [451] (by decide +kernel) (by decide +kernel) w h).1)
set_option maxRecDepth 20000 in
theorem wsL_inb_4_0 : Cond.code yL_isSo cL_isSo 16 (some .boolean) ∈ lw_tbl := List.mem_append_right _ (List.mem_append_right _ (List.mem_append_right _ (List.mem_of_getElem? (l := tables_1_3) (i := 116) rfl)))
set_option maxRecDepth 20000 in
theorem wsL_in_4 : ∀ w ∈ wsL_law_r4, w ∈ lw_tbl := (List.forall_mem_append.mpr ⟨wsL_in_4_0, List.forall_mem_cons.mpr ⟨wsL_inb_4_0, wsL_in_4_1⟩⟩ : ∀ w ∈ ([Cond.fieldLink RX1 33 "VacantAir$Devices" "hops" "[I", Cond.fieldLink RX1 36 "VacantAir$Devices" "struck" "[I", Cond.fieldLink RX1 39 "VacantAir$Devices" "cut" "[I", Cond.methodLink RX6 21 yX3_init, Cond.instanceMethod yX3_init, Cond.code yX3_init cX3_init 2 none, Cond.methodLink RX3 3 objectInit, Cond.classLink RX3 9 RX4, Cond.fieldLink RX3 11 "VacantAir$History" "ring" "[LVacantAir$State;", Cond.methodLink RX3 17 yX4_init, Cond.instanceMethod yX0_init, Cond.code yX0_init cX0_init 1 none, Cond.methodLink RX0 3 objectInit, Cond.fieldLink RX0 9 "VacantAir$ActText" "bytes" "[I", Cond.fieldLink RX0 15 "VacantAir$ActText" "fault" "I", Cond.methodLink RL 122 yL_isSo, Cond.static yL_isSo, Cond.initialized RL] : List Cond) ++ (Cond.code yL_isSo cL_isSo 16 (some .boolean) :: (([Cond.methodLink RL 26 yL_may, Cond.static yL_may, Cond.code yL_may cL_may 7 (some .boolean), Cond.methodLink RL 22 yL_allowed, Cond.static yL_allowed] : List Cond))), w ∈ lw_tbl)
set_option maxRecDepth 20000 in
theorem wsL_in_5_0 : ∀ w ∈ ([] : List Cond), w ∈ lw_tbl := fun _ h => absurd h List.not_mem_nil
set_option maxRecDepth 20000 in
theorem wsL_in_5_1 : ∀ w ∈ ([Cond.methodLink RL 9 yL_radius, Cond.static yL_radius, Cond.code yL_radius cL_radius 1 (some .int), Cond.methodLink RL 15 yL_reach, Cond.static yL_reach, Cond.code yL_reach cL_reach 1 (some .int), Cond.methodLink RL 18 yL_near, Cond.static yL_near, Cond.code yL_near cL_near 7 (some .boolean), Cond.methodLink RL 107 yX6_station, Cond.instanceMethod yX6_station, Cond.selects RX6 yX6_station yX6_station, Cond.code yX6_station cX6_station 3 (some .int), Cond.fieldLink RX6 132 "VacantAir$State" "stations" "LVacantAir$Stations;", Cond.methodLink RX6 136 yX5_has, Cond.instanceMethod yX5_has, Cond.selects RX5 yX5_has yX5_has, Cond.code yX5_has cX5_has 2 (some .boolean), Cond.fieldLink RX5 27 "VacantAir$Stations" "count" "I", Cond.methodLink RX6 122 yX6_isOutside, Cond.static yX6_isOutside, Cond.code yX6_isOutside cX6_isOutside 3 (some .boolean), Cond.methodLink RX6 142 yX6_barredAlone] : List Cond), w ∈ lw_tbl := (fun w h => (goodIn_p [Cond.methodLink RL 9 yL_radius, Cond.static yL_radius, Cond.code yL_radius cL_radius 1 (some .int), Cond.methodLink RL 15 yL_reach, Cond.static yL_reach, Cond.code yL_reach cL_reach 1 (some .int), Cond.methodLink RL 18 yL_near, Cond.static yL_near, Cond.code yL_near cL_near 7 (some .boolean), Cond.methodLink RL 107 yX6_station, Cond.instanceMethod yX6_station, Cond.selects RX6 yX6_station yX6_station, Cond.code yX6_station cX6_station 3 (some .int), Cond.fieldLink RX6 132 "VacantAir$State" "stations" "LVacantAir$Stations;", Cond.methodLink RX6 136 yX5_has, Cond.instanceMethod yX5_has, Cond.selects RX5 yX5_has yX5_has, Cond.code yX5_has cX5_has 2 (some .boolean), Cond.fieldLink RX5 27 "VacantAir$Stations" "count" "I", Cond.methodLink RX6 122 yX6_isOutside, Cond.static yX6_isOutside, Cond.code yX6_isOutside cX6_isOutside 3 (some .boolean), Cond.methodLink RX6 142 yX6_barredAlone] [457, 460, 463, 253, 257, 260] (by decide +kernel) (by decide +kernel) w h).1)
set_option maxRecDepth 20000 in
theorem wsL_inb_5_0 : Cond.code yL_allowed cL_allowed 11 (some .boolean) ∈ lw_tbl := List.mem_append_right _ (List.mem_append_right _ (List.mem_append_left _ (List.mem_of_getElem? (l := tables_1_2) (i := 203) rfl)))
set_option maxRecDepth 20000 in
theorem wsL_in_5 : ∀ w ∈ wsL_law_r5, w ∈ lw_tbl := (List.forall_mem_append.mpr ⟨wsL_in_5_0, List.forall_mem_cons.mpr ⟨wsL_inb_5_0, wsL_in_5_1⟩⟩ : ∀ w ∈ ([] : List Cond) ++ (Cond.code yL_allowed cL_allowed 11 (some .boolean) :: (([Cond.methodLink RL 9 yL_radius, Cond.static yL_radius, Cond.code yL_radius cL_radius 1 (some .int), Cond.methodLink RL 15 yL_reach, Cond.static yL_reach, Cond.code yL_reach cL_reach 1 (some .int), Cond.methodLink RL 18 yL_near, Cond.static yL_near, Cond.code yL_near cL_near 7 (some .boolean), Cond.methodLink RL 107 yX6_station, Cond.instanceMethod yX6_station, Cond.selects RX6 yX6_station yX6_station, Cond.code yX6_station cX6_station 3 (some .int), Cond.fieldLink RX6 132 "VacantAir$State" "stations" "LVacantAir$Stations;", Cond.methodLink RX6 136 yX5_has, Cond.instanceMethod yX5_has, Cond.selects RX5 yX5_has yX5_has, Cond.code yX5_has cX5_has 2 (some .boolean), Cond.fieldLink RX5 27 "VacantAir$Stations" "count" "I", Cond.methodLink RX6 122 yX6_isOutside, Cond.static yX6_isOutside, Cond.code yX6_isOutside cX6_isOutside 3 (some .boolean), Cond.methodLink RX6 142 yX6_barredAlone] : List Cond))), w ∈ lw_tbl)
set_option maxRecDepth 20000 in
theorem wsL_in_6 : ∀ w ∈ wsL_law_r6, w ∈ lw_tbl := fun w h => (goodIn_p wsL_law_r6 [264, 268, 272, 275, 278] (by decide +kernel) (by decide +kernel) w h).1
set_option maxRecDepth 20000 in
theorem wsL_in_7 : ∀ w ∈ wsL_law_r7, w ∈ lw_tbl := fun w h => (goodIn_p wsL_law_r7 [285, 290, 296, 300] (by decide +kernel) (by decide +kernel) w h).1
set_option maxRecDepth 20000 in
theorem wsL_in_8 : ∀ w ∈ wsL_law_r8, w ∈ lw_tbl := fun w h => (goodIn_p wsL_law_r8 [304, 308, 315] (by decide +kernel) (by decide +kernel) w h).1
set_option maxRecDepth 20000 in
theorem wsL_in_9 : ∀ w ∈ wsL_law_r9, w ∈ lw_tbl := fun w h => (goodIn_p wsL_law_r9 [319, 323, 328, 332, 336, 341] (by decide +kernel) (by decide +kernel) w h).1
set_option maxRecDepth 20000 in
theorem wsL_in_10 : ∀ w ∈ wsL_law_r10, w ∈ lw_tbl := fun w h => (goodIn_p wsL_law_r10 [345, 349, 353, 358, 362] (by decide +kernel) (by decide +kernel) w h).1
set_option maxRecDepth 20000 in
theorem wsL_in_11 : ∀ w ∈ wsL_law_r11, w ∈ lw_tbl := fun w h => (goodIn_p wsL_law_r11 [366, 573, 370, 374, 378] (by decide +kernel) (by decide +kernel) w h).1
set_option maxRecDepth 20000 in
theorem wsL_in_12_0 : ∀ w ∈ ([Cond.selects RX1 yX1_countLeases yX1_countLeases, Cond.code yX1_countLeases cX1_countLeases 3 (some .int), Cond.methodLink RX4 134 yX1_countNotices, Cond.instanceMethod yX1_countNotices, Cond.selects RX1 yX1_countNotices yX1_countNotices, Cond.code yX1_countNotices cX1_countNotices 3 (some .int), Cond.methodLink RX4 220 yX1_sumOf, Cond.instanceMethod yX1_sumOf, Cond.selects RX1 yX1_sumOf yX1_sumOf, Cond.code yX1_sumOf cX1_sumOf 4 (some .int), Cond.methodLink RL 62 yL_notices, Cond.static yL_notices, Cond.code yL_notices cL_notices 4 (some .int), Cond.methodLink RL 126 yL_cell, Cond.static yL_cell, Cond.code yL_cell cL_cell 2 (some .int), Cond.constant RL 7 (40503), Cond.methodLink RL 130 yL_acts, Cond.static yL_acts] : List Cond), w ∈ lw_tbl := (fun w h => (goodIn_p [Cond.selects RX1 yX1_countLeases yX1_countLeases, Cond.code yX1_countLeases cX1_countLeases 3 (some .int), Cond.methodLink RX4 134 yX1_countNotices, Cond.instanceMethod yX1_countNotices, Cond.selects RX1 yX1_countNotices yX1_countNotices, Cond.code yX1_countNotices cX1_countNotices 3 (some .int), Cond.methodLink RX4 220 yX1_sumOf, Cond.instanceMethod yX1_sumOf, Cond.selects RX1 yX1_sumOf yX1_sumOf, Cond.code yX1_sumOf cX1_sumOf 4 (some .int), Cond.methodLink RL 62 yL_notices, Cond.static yL_notices, Cond.code yL_notices cL_notices 4 (some .int), Cond.methodLink RL 126 yL_cell, Cond.static yL_cell, Cond.code yL_cell cL_cell 2 (some .int), Cond.constant RL 7 (40503), Cond.methodLink RL 130 yL_acts, Cond.static yL_acts] [382, 386, 390, 497, 393] (by decide +kernel) (by decide +kernel) w h).1)
set_option maxRecDepth 20000 in
theorem wsL_in_12_1 : ∀ w ∈ ([Cond.constant RL 85 (10000000), Cond.methodLink RL 86 yL_low, Cond.static yL_low, Cond.code yL_low cL_low 2 (some .int)] : List Cond), w ∈ lw_tbl := (fun w h => (goodIn_p [Cond.constant RL 85 (10000000), Cond.methodLink RL 86 yL_low, Cond.static yL_low, Cond.code yL_low cL_low 2 (some .int)] [397] (by decide +kernel) (by decide +kernel) w h).1)
set_option maxRecDepth 20000 in
theorem wsL_inb_12_0 : Cond.code yL_acts cL_acts 13 (some .boolean) ∈ lw_tbl := List.mem_append_right _ (List.mem_append_right _ (List.mem_append_left _ (List.mem_of_getElem? (l := tables_1_2) (i := 150) rfl)))
set_option maxRecDepth 20000 in
theorem wsL_in_12 : ∀ w ∈ wsL_law_r12, w ∈ lw_tbl := (List.forall_mem_append.mpr ⟨wsL_in_12_0, List.forall_mem_cons.mpr ⟨wsL_inb_12_0, wsL_in_12_1⟩⟩ : ∀ w ∈ ([Cond.selects RX1 yX1_countLeases yX1_countLeases, Cond.code yX1_countLeases cX1_countLeases 3 (some .int), Cond.methodLink RX4 134 yX1_countNotices, Cond.instanceMethod yX1_countNotices, Cond.selects RX1 yX1_countNotices yX1_countNotices, Cond.code yX1_countNotices cX1_countNotices 3 (some .int), Cond.methodLink RX4 220 yX1_sumOf, Cond.instanceMethod yX1_sumOf, Cond.selects RX1 yX1_sumOf yX1_sumOf, Cond.code yX1_sumOf cX1_sumOf 4 (some .int), Cond.methodLink RL 62 yL_notices, Cond.static yL_notices, Cond.code yL_notices cL_notices 4 (some .int), Cond.methodLink RL 126 yL_cell, Cond.static yL_cell, Cond.code yL_cell cL_cell 2 (some .int), Cond.constant RL 7 (40503), Cond.methodLink RL 130 yL_acts, Cond.static yL_acts] : List Cond) ++ (Cond.code yL_acts cL_acts 13 (some .boolean) :: (([Cond.constant RL 85 (10000000), Cond.methodLink RL 86 yL_low, Cond.static yL_low, Cond.code yL_low cL_low 2 (some .int)] : List Cond))), w ∈ lw_tbl)
set_option maxRecDepth 20000 in
theorem wsL_in_13_0 : ∀ w ∈ ([Cond.methodLink RL 89 yL_adds, Cond.static yL_adds] : List Cond), w ∈ lw_tbl := (fun w h => (goodIn_p [Cond.methodLink RL 89 yL_adds, Cond.static yL_adds] [] (by decide +kernel) (by decide +kernel) w h).1)
set_option maxRecDepth 20000 in
theorem wsL_in_13_1 : ∀ w ∈ ([Cond.methodLink RL 42 yX6_addStation, Cond.instanceMethod yX6_addStation, Cond.selects RX6 yX6_addStation yX6_addStation, Cond.code yX6_addStation cX6_addStation 5 (some .int), Cond.methodLink RX6 41 yX3_note, Cond.instanceMethod yX3_note, Cond.selects RX3 yX3_note yX3_note, Cond.code yX3_note cX3_note 2 none, Cond.fieldLink RX3 18 "VacantAir$History" "oldest" "I", Cond.fieldLink RX3 22 "VacantAir$History" "count" "I", Cond.methodLink RX3 25 yX4_copyFrom, Cond.methodLink RX6 45 yX4_putStation, Cond.instanceMethod yX4_putStation, Cond.selects RX4 yX4_putStation yX4_putStation, Cond.code yX4_putStation cX4_putStation 6 (some .int), Cond.static yX6_isNoPlace, Cond.code yX6_isNoPlace cX6_isNoPlace 2 (some .boolean), Cond.methodLink RX6 49 yX6_recorded, Cond.instanceMethod yX6_recorded, Cond.selects RX6 yX6_recorded yX6_recorded, Cond.code yX6_recorded cX6_recorded 2 (some .int)] : List Cond), w ∈ lw_tbl := (fun w h => (goodIn_p [Cond.methodLink RL 42 yX6_addStation, Cond.instanceMethod yX6_addStation, Cond.selects RX6 yX6_addStation yX6_addStation, Cond.code yX6_addStation cX6_addStation 5 (some .int), Cond.methodLink RX6 41 yX3_note, Cond.instanceMethod yX3_note, Cond.selects RX3 yX3_note yX3_note, Cond.code yX3_note cX3_note 2 none, Cond.fieldLink RX3 18 "VacantAir$History" "oldest" "I", Cond.fieldLink RX3 22 "VacantAir$History" "count" "I", Cond.methodLink RX3 25 yX4_copyFrom, Cond.methodLink RX6 45 yX4_putStation, Cond.instanceMethod yX4_putStation, Cond.selects RX4 yX4_putStation yX4_putStation, Cond.code yX4_putStation cX4_putStation 6 (some .int), Cond.static yX6_isNoPlace, Cond.code yX6_isNoPlace cX6_isNoPlace 2 (some .boolean), Cond.methodLink RX6 49 yX6_recorded, Cond.instanceMethod yX6_recorded, Cond.selects RX6 yX6_recorded yX6_recorded, Cond.code yX6_recorded cX6_recorded 2 (some .int)] [409, 413, 418, 421, 426] (by decide +kernel) (by decide +kernel) w h).1)
set_option maxRecDepth 20000 in
theorem wsL_inb_13_0 : Cond.code yL_adds cL_adds 15 (some .boolean) ∈ lw_tbl := List.mem_append_right _ (List.mem_append_right _ (List.mem_append_left _ (List.mem_of_getElem? (l := tables_1_2) (i := 154) rfl)))
set_option maxRecDepth 20000 in
theorem wsL_in_13 : ∀ w ∈ wsL_law_r13, w ∈ lw_tbl := (List.forall_mem_append.mpr ⟨wsL_in_13_0, List.forall_mem_cons.mpr ⟨wsL_inb_13_0, wsL_in_13_1⟩⟩ : ∀ w ∈ ([Cond.methodLink RL 89 yL_adds, Cond.static yL_adds] : List Cond) ++ (Cond.code yL_adds cL_adds 15 (some .boolean) :: (([Cond.methodLink RL 42 yX6_addStation, Cond.instanceMethod yX6_addStation, Cond.selects RX6 yX6_addStation yX6_addStation, Cond.code yX6_addStation cX6_addStation 5 (some .int), Cond.methodLink RX6 41 yX3_note, Cond.instanceMethod yX3_note, Cond.selects RX3 yX3_note yX3_note, Cond.code yX3_note cX3_note 2 none, Cond.fieldLink RX3 18 "VacantAir$History" "oldest" "I", Cond.fieldLink RX3 22 "VacantAir$History" "count" "I", Cond.methodLink RX3 25 yX4_copyFrom, Cond.methodLink RX6 45 yX4_putStation, Cond.instanceMethod yX4_putStation, Cond.selects RX4 yX4_putStation yX4_putStation, Cond.code yX4_putStation cX4_putStation 6 (some .int), Cond.static yX6_isNoPlace, Cond.code yX6_isNoPlace cX6_isNoPlace 2 (some .boolean), Cond.methodLink RX6 49 yX6_recorded, Cond.instanceMethod yX6_recorded, Cond.selects RX6 yX6_recorded yX6_recorded, Cond.code yX6_recorded cX6_recorded 2 (some .int)] : List Cond))), w ∈ lw_tbl)
set_option maxRecDepth 20000 in
theorem wsL_in_14 : ∀ w ∈ wsL_law_r14, w ∈ lw_tbl := fun w h => (goodIn_p wsL_law_r14 [430, 434, 438, 442] (by decide +kernel) (by decide +kernel) w h).1
set_option maxRecDepth 20000 in
theorem wsL_in_15_0 : ∀ w ∈ ([Cond.static yL_review, Cond.code yL_review cL_review 7 none, Cond.methodLink RL 52 yX6_addDevice, Cond.instanceMethod yX6_addDevice, Cond.selects RX6 yX6_addDevice yX6_addDevice, Cond.code yX6_addDevice cX6_addDevice 4 (some .int), Cond.methodLink RX6 57 yX4_putDevice, Cond.instanceMethod yX4_putDevice, Cond.selects RX4 yX4_putDevice yX4_putDevice, Cond.code yX4_putDevice cX4_putDevice 5 (some .int), Cond.fieldLink RX4 108 "VacantAir$Devices" "greatest" "[I", Cond.methodLink RX4 120 yX1_removeLease, Cond.instanceMethod yX1_removeLease, Cond.selects RX1 yX1_removeLease yX1_removeLease, Cond.code yX1_removeLease cX1_removeLease 2 none, Cond.methodLink RL 30 yL_ends, Cond.static yL_ends, Cond.code yL_ends cL_ends 4 none, Cond.methodLink RL 93 yL_turns, Cond.static yL_turns] : List Cond), w ∈ lw_tbl := (fun w h => (goodIn_p [Cond.static yL_review, Cond.code yL_review cL_review 7 none, Cond.methodLink RL 52 yX6_addDevice, Cond.instanceMethod yX6_addDevice, Cond.selects RX6 yX6_addDevice yX6_addDevice, Cond.code yX6_addDevice cX6_addDevice 4 (some .int), Cond.methodLink RX6 57 yX4_putDevice, Cond.instanceMethod yX4_putDevice, Cond.selects RX4 yX4_putDevice yX4_putDevice, Cond.code yX4_putDevice cX4_putDevice 5 (some .int), Cond.fieldLink RX4 108 "VacantAir$Devices" "greatest" "[I", Cond.methodLink RX4 120 yX1_removeLease, Cond.instanceMethod yX1_removeLease, Cond.selects RX1 yX1_removeLease yX1_removeLease, Cond.code yX1_removeLease cX1_removeLease 2 none, Cond.methodLink RL 30 yL_ends, Cond.static yL_ends, Cond.code yL_ends cL_ends 4 none, Cond.methodLink RL 93 yL_turns, Cond.static yL_turns] [448, 467, 471, 475, 478] (by decide +kernel) (by decide +kernel) w h).1)
set_option maxRecDepth 20000 in
theorem wsL_in_15_1 : ∀ w ∈ ([Cond.methodLink RL 56 yX6_wake, Cond.instanceMethod yX6_wake, Cond.selects RX6 yX6_wake yX6_wake] : List Cond), w ∈ lw_tbl := (fun w h => (goodIn_p [Cond.methodLink RL 56 yX6_wake, Cond.instanceMethod yX6_wake, Cond.selects RX6 yX6_wake yX6_wake] [] (by decide +kernel) (by decide +kernel) w h).1)
set_option maxRecDepth 20000 in
theorem wsL_inb_15_0 : Cond.code yL_turns cL_turns 10 (some .boolean) ∈ lw_tbl := List.mem_append_right _ (List.mem_append_right _ (List.mem_append_left _ (List.mem_of_getElem? (l := tables_1_2) (i := 230) rfl)))
set_option maxRecDepth 20000 in
theorem wsL_in_15 : ∀ w ∈ wsL_law_r15, w ∈ lw_tbl := (List.forall_mem_append.mpr ⟨wsL_in_15_0, List.forall_mem_cons.mpr ⟨wsL_inb_15_0, wsL_in_15_1⟩⟩ : ∀ w ∈ ([Cond.static yL_review, Cond.code yL_review cL_review 7 none, Cond.methodLink RL 52 yX6_addDevice, Cond.instanceMethod yX6_addDevice, Cond.selects RX6 yX6_addDevice yX6_addDevice, Cond.code yX6_addDevice cX6_addDevice 4 (some .int), Cond.methodLink RX6 57 yX4_putDevice, Cond.instanceMethod yX4_putDevice, Cond.selects RX4 yX4_putDevice yX4_putDevice, Cond.code yX4_putDevice cX4_putDevice 5 (some .int), Cond.fieldLink RX4 108 "VacantAir$Devices" "greatest" "[I", Cond.methodLink RX4 120 yX1_removeLease, Cond.instanceMethod yX1_removeLease, Cond.selects RX1 yX1_removeLease yX1_removeLease, Cond.code yX1_removeLease cX1_removeLease 2 none, Cond.methodLink RL 30 yL_ends, Cond.static yL_ends, Cond.code yL_ends cL_ends 4 none, Cond.methodLink RL 93 yL_turns, Cond.static yL_turns] : List Cond) ++ (Cond.code yL_turns cL_turns 10 (some .boolean) :: (([Cond.methodLink RL 56 yX6_wake, Cond.instanceMethod yX6_wake, Cond.selects RX6 yX6_wake yX6_wake] : List Cond))), w ∈ lw_tbl)
set_option maxRecDepth 20000 in
theorem wsL_in_16 : ∀ w ∈ wsL_law_r16, w ∈ lw_tbl := fun w h => (goodIn_p wsL_law_r16 [485, 489, 494, 501, 505, 510] (by decide +kernel) (by decide +kernel) w h).1
set_option maxRecDepth 20000 in
theorem wsL_in_17 : ∀ w ∈ wsL_law_r17, w ∈ lw_tbl := fun w h => (goodIn_p wsL_law_r17 [514, 522, 526, 531, 535] (by decide +kernel) (by decide +kernel) w h).1
set_option maxRecDepth 20000 in
theorem wsL_in_18 : ∀ w ∈ wsL_law_r18, w ∈ lw_tbl := fun w h => (goodIn_p wsL_law_r18 [539, 543, 548, 552, 556, 560] (by decide +kernel) (by decide +kernel) w h).1
set_option maxRecDepth 20000 in
theorem wsL_in_19_0 : ∀ w ∈ ([Cond.selects RX4 yX4_dropLease yX4_dropLease, Cond.code yX4_dropLease cX4_dropLease 2 (some .int), Cond.methodLink RL 97 yL_leased, Cond.static yL_leased] : List Cond), w ∈ lw_tbl := (fun w h => (goodIn_p [Cond.selects RX4 yX4_dropLease yX4_dropLease, Cond.code yX4_dropLease cX4_dropLease 2 (some .int), Cond.methodLink RL 97 yL_leased, Cond.static yL_leased] [564] (by decide +kernel) (by decide +kernel) w h).1)
set_option maxRecDepth 20000 in
theorem wsL_in_19_1 : ∀ w ∈ ([Cond.methodLink RL 38 yL_offer, Cond.static yL_offer] : List Cond), w ∈ lw_tbl := (fun w h => (goodIn_p [Cond.methodLink RL 38 yL_offer, Cond.static yL_offer] [] (by decide +kernel) (by decide +kernel) w h).1)
set_option maxRecDepth 20000 in
theorem wsL_in_19_2 : ∀ w ∈ ([Cond.methodLink RL 100 yL_hour, Cond.static yL_hour] : List Cond), w ∈ lw_tbl := (fun w h => (goodIn_p [Cond.methodLink RL 100 yL_hour, Cond.static yL_hour] [] (by decide +kernel) (by decide +kernel) w h).1)
set_option maxRecDepth 20000 in
theorem wsL_in_19_3 : ∀ w ∈ ([Cond.methodLink RL 104 yX6_pass, Cond.instanceMethod yX6_pass, Cond.selects RX6 yX6_pass yX6_pass, Cond.code yX6_pass cX6_pass 2 (some .int), Cond.methodLink RX6 80 yX4_passHours, Cond.instanceMethod yX4_passHours, Cond.selects RX4 yX4_passHours yX4_passHours, Cond.code yX4_passHours cX4_passHours 4 (some .int), Cond.methodLink RX4 164 yX4_passOneHour, Cond.instanceMethod yX4_passOneHour, Cond.selects RX4 yX4_passOneHour yX4_passOneHour, Cond.code yX4_passOneHour cX4_passOneHour 3 (some .int), Cond.methodLink RX4 167 yX4_endLeases] : List Cond), w ∈ lw_tbl := (fun w h => (goodIn_p [Cond.methodLink RL 104 yX6_pass, Cond.instanceMethod yX6_pass, Cond.selects RX6 yX6_pass yX6_pass, Cond.code yX6_pass cX6_pass 2 (some .int), Cond.methodLink RX6 80 yX4_passHours, Cond.instanceMethod yX4_passHours, Cond.selects RX4 yX4_passHours yX4_passHours, Cond.code yX4_passHours cX4_passHours 4 (some .int), Cond.methodLink RX4 164 yX4_passOneHour, Cond.instanceMethod yX4_passOneHour, Cond.selects RX4 yX4_passOneHour yX4_passOneHour, Cond.code yX4_passOneHour cX4_passOneHour 3 (some .int), Cond.methodLink RX4 167 yX4_endLeases] [580, 584, 588] (by decide +kernel) (by decide +kernel) w h).1)
set_option maxRecDepth 20000 in
theorem wsL_inb_19_0 : Cond.code yL_leased cL_leased 13 (some .boolean) ∈ lw_tbl := List.mem_append_right _ (List.mem_append_right _ (List.mem_append_right _ (List.mem_of_getElem? (l := tables_1_3) (i := 76) rfl)))
set_option maxRecDepth 20000 in
theorem wsL_inb_19_1 : Cond.code yL_offer cL_offer 13 (some .int) ∈ lw_tbl := List.mem_append_right _ (List.mem_append_right _ (List.mem_append_right _ (List.mem_of_getElem? (l := tables_1_3) (i := 79) rfl)))
set_option maxRecDepth 20000 in
theorem wsL_inb_19_2 : Cond.code yL_hour cL_hour 10 (some .int) ∈ lw_tbl := List.mem_append_right _ (List.mem_append_right _ (List.mem_append_right _ (List.mem_of_getElem? (l := tables_1_3) (i := 85) rfl)))
set_option maxRecDepth 20000 in
theorem wsL_in_19 : ∀ w ∈ wsL_law_r19, w ∈ lw_tbl := (List.forall_mem_append.mpr ⟨wsL_in_19_0, List.forall_mem_cons.mpr ⟨wsL_inb_19_0, List.forall_mem_append.mpr ⟨wsL_in_19_1, List.forall_mem_cons.mpr ⟨wsL_inb_19_1, List.forall_mem_append.mpr ⟨wsL_in_19_2, List.forall_mem_cons.mpr ⟨wsL_inb_19_2, wsL_in_19_3⟩⟩⟩⟩⟩⟩ : ∀ w ∈ ([Cond.selects RX4 yX4_dropLease yX4_dropLease, Cond.code yX4_dropLease cX4_dropLease 2 (some .int), Cond.methodLink RL 97 yL_leased, Cond.static yL_leased] : List Cond) ++ (Cond.code yL_leased cL_leased 13 (some .boolean) :: (([Cond.methodLink RL 38 yL_offer, Cond.static yL_offer] : List Cond) ++ (Cond.code yL_offer cL_offer 13 (some .int) :: (([Cond.methodLink RL 100 yL_hour, Cond.static yL_hour] : List Cond) ++ (Cond.code yL_hour cL_hour 10 (some .int) :: (([Cond.methodLink RL 104 yX6_pass, Cond.instanceMethod yX6_pass, Cond.selects RX6 yX6_pass yX6_pass, Cond.code yX6_pass cX6_pass 2 (some .int), Cond.methodLink RX6 80 yX4_passHours, Cond.instanceMethod yX4_passHours, Cond.selects RX4 yX4_passHours yX4_passHours, Cond.code yX4_passHours cX4_passHours 4 (some .int), Cond.methodLink RX4 164 yX4_passOneHour, Cond.instanceMethod yX4_passOneHour, Cond.selects RX4 yX4_passOneHour yX4_passOneHour, Cond.code yX4_passOneHour cX4_passOneHour 3 (some .int), Cond.methodLink RX4 167 yX4_endLeases] : List Cond))))))), w ∈ lw_tbl)
set_option maxRecDepth 20000 in
theorem wsL_in_20 : ∀ w ∈ wsL_law_r20, w ∈ lw_tbl := fun w h => (goodIn_p wsL_law_r20 [592, 596, 600, 604] (by decide +kernel) (by decide +kernel) w h).1
set_option maxRecDepth 20000 in
theorem inqwsX60 : ∀ w ∈ wsX60, w ∈ lw_tbl := by decide +kernel
set_option maxRecDepth 20000 in
theorem inqwsX40 : ∀ w ∈ wsX40, w ∈ lw_tbl := by decide +kernel
set_option maxRecDepth 20000 in
theorem inqwsX30 : ∀ w ∈ wsX30, w ∈ lw_tbl := by decide +kernel
set_option maxRecDepth 20000 in
theorem inqwsX00 : ∀ w ∈ wsX00, w ∈ lw_tbl := by decide +kernel
set_option maxRecDepth 20000 in
theorem inqwsX50 : ∀ w ∈ wsX50, w ∈ lw_tbl := by decide +kernel
set_option maxRecDepth 20000 in
theorem inqwsX20 : ∀ w ∈ wsX20, w ∈ lw_tbl := by decide +kernel
set_option maxRecDepth 20000 in
theorem inqwsX10 : ∀ w ∈ wsX10, w ∈ lw_tbl := by decide +kernel
theorem wsL_law_in : ∀ w ∈ wsL_law, w ∈ lw_tbl := List.forall_mem_append.mpr ⟨List.forall_mem_append.mpr ⟨List.forall_mem_append.mpr ⟨List.forall_mem_append.mpr ⟨List.forall_mem_append.mpr ⟨List.forall_mem_append.mpr ⟨List.forall_mem_append.mpr ⟨List.forall_mem_append.mpr ⟨List.forall_mem_append.mpr ⟨wsL_in_1, List.forall_mem_append.mpr ⟨wsL_in_2, List.forall_mem_append.mpr ⟨wsL_in_3, List.forall_mem_append.mpr ⟨wsL_in_4, List.forall_mem_append.mpr ⟨wsL_in_5, List.forall_mem_append.mpr ⟨wsL_in_6, List.forall_mem_append.mpr ⟨wsL_in_7, List.forall_mem_append.mpr ⟨wsL_in_8, List.forall_mem_append.mpr ⟨wsL_in_9, List.forall_mem_append.mpr ⟨wsL_in_10, List.forall_mem_append.mpr ⟨wsL_in_11, List.forall_mem_append.mpr ⟨wsL_in_12, List.forall_mem_append.mpr ⟨wsL_in_13, List.forall_mem_append.mpr ⟨wsL_in_14, List.forall_mem_append.mpr ⟨wsL_in_15, List.forall_mem_append.mpr ⟨wsL_in_16, List.forall_mem_append.mpr ⟨wsL_in_17, List.forall_mem_append.mpr ⟨wsL_in_18, List.forall_mem_append.mpr ⟨wsL_in_19, wsL_in_20⟩⟩⟩⟩⟩⟩⟩⟩⟩⟩⟩⟩⟩⟩⟩⟩⟩⟩⟩, inqwsX60⟩, inqwsX40⟩, inqwsX30⟩, inqwsX00⟩, inqwsX50⟩, inqwsX20⟩, inqwsX10⟩, fun _ h => absurd h List.not_mem_nil⟩
theorem inlX0 : ∀ w ∈ wsX00, w ∈ wsL_law := fun _ h => List.mem_append_left _ (List.mem_append_left _ (List.mem_append_left _ (List.mem_append_left _ (List.mem_append_right _ h))))
theorem inX0 : ∀ w ∈ wsX00, w ∈ lw_tbl := fun w h => wsL_law_in w (inlX0 w h)
theorem inlX1 : ∀ w ∈ wsX10, w ∈ wsL_law := fun _ h => List.mem_append_left _ (List.mem_append_right _ h)
theorem inX1 : ∀ w ∈ wsX10, w ∈ lw_tbl := fun w h => wsL_law_in w (inlX1 w h)
theorem inlX2 : ∀ w ∈ wsX20, w ∈ wsL_law := fun _ h => List.mem_append_left _ (List.mem_append_left _ (List.mem_append_right _ h))
theorem inX2 : ∀ w ∈ wsX20, w ∈ lw_tbl := fun w h => wsL_law_in w (inlX2 w h)
theorem inlX3 : ∀ w ∈ wsX30, w ∈ wsL_law := fun _ h => List.mem_append_left _ (List.mem_append_left _ (List.mem_append_left _ (List.mem_append_left _ (List.mem_append_left _ (List.mem_append_right _ h)))))
theorem inX3 : ∀ w ∈ wsX30, w ∈ lw_tbl := fun w h => wsL_law_in w (inlX3 w h)
theorem inlX4 : ∀ w ∈ wsX40, w ∈ wsL_law := fun _ h => List.mem_append_left _ (List.mem_append_left _ (List.mem_append_left _ (List.mem_append_left _ (List.mem_append_left _ (List.mem_append_left _ (List.mem_append_right _ h))))))
theorem inX4 : ∀ w ∈ wsX40, w ∈ lw_tbl := fun w h => wsL_law_in w (inlX4 w h)
theorem inlX5 : ∀ w ∈ wsX50, w ∈ wsL_law := fun _ h => List.mem_append_left _ (List.mem_append_left _ (List.mem_append_left _ (List.mem_append_right _ h)))
theorem inX5 : ∀ w ∈ wsX50, w ∈ lw_tbl := fun w h => wsL_law_in w (inlX5 w h)
theorem inlX6 : ∀ w ∈ wsX60, w ∈ wsL_law := fun _ h => List.mem_append_left _ (List.mem_append_left _ (List.mem_append_left _ (List.mem_append_left _ (List.mem_append_left _ (List.mem_append_left _ (List.mem_append_left _ (List.mem_append_right _ h)))))))
theorem inX6 : ∀ w ∈ wsX60, w ∈ lw_tbl := fun w h => wsL_law_in w (inlX6 w h)
theorem inX7 : ∀ w ∈ wsX70, w ∈ lw_tbl := by decide +kernel
theorem inJ9 : ∀ w ∈ wsJ90, w ∈ lw_tbl := by decide +kernel
theorem inJ10 : ∀ w ∈ wsJ100, w ∈ lw_tbl := by decide +kernel
theorem dX0_init_0 : decode cX0_init 0 = .ok (.aload_n 0, 1) := by decide +kernel
theorem dX0_init_1 : decode cX0_init 1 = .ok (.invokespecial 3, 3) := by decide +kernel
theorem dX0_init_4 : decode cX0_init 4 = .ok (.aload_n 0, 1) := by decide +kernel
theorem dX0_init_5 : decode cX0_init 5 = .ok (.bipush 80, 2) := by decide +kernel
theorem dX0_init_7 : decode cX0_init 7 = .ok (.newarray .int, 2) := by decide +kernel
theorem dX0_init_9 : decode cX0_init 9 = .ok (.putfield 9, 3) := by decide +kernel
theorem dX0_init_12 : decode cX0_init 12 = .ok (.aload_n 0, 1) := by decide +kernel
theorem dX0_init_13 : decode cX0_init 13 = .ok (.bipush (-6), 2) := by decide +kernel
theorem dX0_init_15 : decode cX0_init 15 = .ok (.putfield 15, 3) := by decide +kernel
theorem dX0_init_18 : decode cX0_init 18 = .ok (.return_, 1) := by decide +kernel
theorem dX1_init_0 : decode cX1_init 0 = .ok (.aload_n 0, 1) := by decide +kernel
theorem dX1_init_1 : decode cX1_init 1 = .ok (.invokespecial 3, 3) := by decide +kernel
theorem dX1_init_4 : decode cX1_init 4 = .ok (.aload_n 0, 1) := by decide +kernel
theorem dX1_init_5 : decode cX1_init 5 = .ok (.bipush 16, 2) := by decide +kernel
theorem dX1_init_7 : decode cX1_init 7 = .ok (.newarray .int, 2) := by decide +kernel
theorem dX1_init_9 : decode cX1_init 9 = .ok (.putfield 9, 3) := by decide +kernel
theorem dX1_init_12 : decode cX1_init 12 = .ok (.aload_n 0, 1) := by decide +kernel
theorem dX1_init_13 : decode cX1_init 13 = .ok (.bipush 16, 2) := by decide +kernel
theorem dX1_init_15 : decode cX1_init 15 = .ok (.newarray .int, 2) := by decide +kernel
theorem dX1_init_17 : decode cX1_init 17 = .ok (.putfield 15, 3) := by decide +kernel
theorem dX1_init_20 : decode cX1_init 20 = .ok (.aload_n 0, 1) := by decide +kernel
theorem dX1_init_21 : decode cX1_init 21 = .ok (.bipush 16, 2) := by decide +kernel
theorem dX1_init_23 : decode cX1_init 23 = .ok (.newarray .int, 2) := by decide +kernel
theorem dX1_init_25 : decode cX1_init 25 = .ok (.putfield 18, 3) := by decide +kernel
theorem dX1_init_28 : decode cX1_init 28 = .ok (.aload_n 0, 1) := by decide +kernel
theorem dX1_init_29 : decode cX1_init 29 = .ok (.bipush 16, 2) := by decide +kernel
theorem dX1_init_31 : decode cX1_init 31 = .ok (.newarray .int, 2) := by decide +kernel
theorem dX1_init_33 : decode cX1_init 33 = .ok (.putfield 21, 3) := by decide +kernel
theorem dX1_init_36 : decode cX1_init 36 = .ok (.aload_n 0, 1) := by decide +kernel
theorem dX1_init_37 : decode cX1_init 37 = .ok (.bipush 16, 2) := by decide +kernel
theorem dX1_init_39 : decode cX1_init 39 = .ok (.newarray .int, 2) := by decide +kernel
theorem dX1_init_41 : decode cX1_init 41 = .ok (.putfield 24, 3) := by decide +kernel
theorem dX1_init_44 : decode cX1_init 44 = .ok (.aload_n 0, 1) := by decide +kernel
theorem dX1_init_45 : decode cX1_init 45 = .ok (.bipush 16, 2) := by decide +kernel
theorem dX1_init_47 : decode cX1_init 47 = .ok (.newarray .int, 2) := by decide +kernel
theorem dX1_init_49 : decode cX1_init 49 = .ok (.putfield 27, 3) := by decide +kernel
theorem dX1_init_52 : decode cX1_init 52 = .ok (.aload_n 0, 1) := by decide +kernel
theorem dX1_init_53 : decode cX1_init 53 = .ok (.bipush 16, 2) := by decide +kernel
theorem dX1_init_55 : decode cX1_init 55 = .ok (.newarray .int, 2) := by decide +kernel
theorem dX1_init_57 : decode cX1_init 57 = .ok (.putfield 30, 3) := by decide +kernel
theorem dX1_init_60 : decode cX1_init 60 = .ok (.aload_n 0, 1) := by decide +kernel
theorem dX1_init_61 : decode cX1_init 61 = .ok (.bipush 16, 2) := by decide +kernel
theorem dX1_init_63 : decode cX1_init 63 = .ok (.newarray .int, 2) := by decide +kernel
theorem dX1_init_65 : decode cX1_init 65 = .ok (.putfield 33, 3) := by decide +kernel
theorem dX1_init_68 : decode cX1_init 68 = .ok (.aload_n 0, 1) := by decide +kernel
theorem dX1_init_69 : decode cX1_init 69 = .ok (.bipush 16, 2) := by decide +kernel
theorem dX1_init_71 : decode cX1_init 71 = .ok (.newarray .int, 2) := by decide +kernel
theorem dX1_init_73 : decode cX1_init 73 = .ok (.putfield 36, 3) := by decide +kernel
theorem dX1_init_76 : decode cX1_init 76 = .ok (.aload_n 0, 1) := by decide +kernel
theorem dX1_init_77 : decode cX1_init 77 = .ok (.bipush 16, 2) := by decide +kernel
theorem dX1_init_79 : decode cX1_init 79 = .ok (.newarray .int, 2) := by decide +kernel
theorem dX1_init_81 : decode cX1_init 81 = .ok (.putfield 39, 3) := by decide +kernel
theorem dX1_init_84 : decode cX1_init 84 = .ok (.return_, 1) := by decide +kernel
theorem dX2_init_0 : decode cX2_init 0 = .ok (.aload_n 0, 1) := by decide +kernel
theorem dX2_init_1 : decode cX2_init 1 = .ok (.invokespecial 3, 3) := by decide +kernel
theorem dX2_init_4 : decode cX2_init 4 = .ok (.aload_n 0, 1) := by decide +kernel
theorem dX2_init_5 : decode cX2_init 5 = .ok (.bipush 8, 2) := by decide +kernel
theorem dX2_init_7 : decode cX2_init 7 = .ok (.newarray .int, 2) := by decide +kernel
theorem dX2_init_9 : decode cX2_init 9 = .ok (.putfield 9, 3) := by decide +kernel
theorem dX2_init_12 : decode cX2_init 12 = .ok (.aload_n 0, 1) := by decide +kernel
theorem dX2_init_13 : decode cX2_init 13 = .ok (.bipush 8, 2) := by decide +kernel
theorem dX2_init_15 : decode cX2_init 15 = .ok (.newarray .int, 2) := by decide +kernel
theorem dX2_init_17 : decode cX2_init 17 = .ok (.putfield 15, 3) := by decide +kernel
theorem dX2_init_20 : decode cX2_init 20 = .ok (.aload_n 0, 1) := by decide +kernel
theorem dX2_init_21 : decode cX2_init 21 = .ok (.bipush 8, 2) := by decide +kernel
theorem dX2_init_23 : decode cX2_init 23 = .ok (.newarray .int, 2) := by decide +kernel
theorem dX2_init_25 : decode cX2_init 25 = .ok (.putfield 18, 3) := by decide +kernel
theorem dX2_init_28 : decode cX2_init 28 = .ok (.aload_n 0, 1) := by decide +kernel
theorem dX2_init_29 : decode cX2_init 29 = .ok (.bipush 8, 2) := by decide +kernel
theorem dX2_init_31 : decode cX2_init 31 = .ok (.newarray .int, 2) := by decide +kernel
theorem dX2_init_33 : decode cX2_init 33 = .ok (.putfield 21, 3) := by decide +kernel
theorem dX2_init_36 : decode cX2_init 36 = .ok (.aload_n 0, 1) := by decide +kernel
theorem dX2_init_37 : decode cX2_init 37 = .ok (.bipush 8, 2) := by decide +kernel
theorem dX2_init_39 : decode cX2_init 39 = .ok (.newarray .int, 2) := by decide +kernel
theorem dX2_init_41 : decode cX2_init 41 = .ok (.putfield 24, 3) := by decide +kernel
theorem dX2_init_44 : decode cX2_init 44 = .ok (.aload_n 0, 1) := by decide +kernel
theorem dX2_init_45 : decode cX2_init 45 = .ok (.bipush 8, 2) := by decide +kernel
theorem dX2_init_47 : decode cX2_init 47 = .ok (.newarray .int, 2) := by decide +kernel
theorem dX2_init_49 : decode cX2_init 49 = .ok (.putfield 27, 3) := by decide +kernel
theorem dX2_init_52 : decode cX2_init 52 = .ok (.aload_n 0, 1) := by decide +kernel
theorem dX2_init_53 : decode cX2_init 53 = .ok (.bipush 8, 2) := by decide +kernel
theorem dX2_init_55 : decode cX2_init 55 = .ok (.newarray .int, 2) := by decide +kernel
theorem dX2_init_57 : decode cX2_init 57 = .ok (.putfield 30, 3) := by decide +kernel
theorem dX2_init_60 : decode cX2_init 60 = .ok (.return_, 1) := by decide +kernel
set_option maxRecDepth 20000 in
theorem ggX3_init_X4_init : GoodIn wsX3_init wsX4_init := goodIn_r _ [10, 11, 2, 3, 12, 13, 14, 15, 16, 17, 18, 19, 20, 21, 22, 23, 24, 25, 26, 27, 28, 29, 30, 31, 32, 33, 34, 35, 36, 37, 38, 39, 40, 41, 42, 43, 44, 45, 46, 47, 48, 49, 50, 51, 52, 53, 54, 55, 56, 66, 67, 68, 69, 70, 71, 60, 61, 62, 63, 64, 65, 72, 73, 74, 75, 76, 77, 78, 79, 80, 81, 82, 83, 84, 85, 86, 87, 88, 89, 90] (by decide +kernel) (by decide +kernel)
set_option maxRecDepth 20000 in
theorem gX3_init_X4_init : GoodIn wsX3_init (wsX4_init) := ggX3_init_X4_init
theorem dX3_init_0 : decode cX3_init 0 = .ok (.aload_n 0, 1) := by decide +kernel
theorem dX3_init_1 : decode cX3_init 1 = .ok (.invokespecial 3, 3) := by decide +kernel
theorem dX3_init_4 : decode cX3_init 4 = .ok (.aload_n 0, 1) := by decide +kernel
theorem dX3_init_5 : decode cX3_init 5 = .ok (.bipush 6, 2) := by decide +kernel
theorem dX3_init_7 : decode cX3_init 7 = .ok (.anewarray 9, 3) := by decide +kernel
theorem dX3_init_10 : decode cX3_init 10 = .ok (.putfield 11, 3) := by decide +kernel
theorem dX3_init_13 : decode cX3_init 13 = .ok (.iconst 0, 1) := by decide +kernel
theorem dX3_init_14 : decode cX3_init 14 = .ok (.istore_n 1, 1) := by decide +kernel
theorem dX3_init_15 : decode cX3_init 15 = .ok (.iload_n 1, 1) := by decide +kernel
theorem dX3_init_16 : decode cX3_init 16 = .ok (.aload_n 0, 1) := by decide +kernel
theorem dX3_init_17 : decode cX3_init 17 = .ok (.getfield 11, 3) := by decide +kernel
theorem dX3_init_20 : decode cX3_init 20 = .ok (.arraylength, 1) := by decide +kernel
theorem dX3_init_21 : decode cX3_init 21 = .ok (.if_icmp .ge 22, 3) := by decide +kernel
theorem dX3_init_24 : decode cX3_init 24 = .ok (.aload_n 0, 1) := by decide +kernel
theorem dX3_init_25 : decode cX3_init 25 = .ok (.getfield 11, 3) := by decide +kernel
theorem dX3_init_28 : decode cX3_init 28 = .ok (.iload_n 1, 1) := by decide +kernel
theorem dX3_init_29 : decode cX3_init 29 = .ok (.new 9, 3) := by decide +kernel
theorem dX3_init_32 : decode cX3_init 32 = .ok (.dup, 1) := by decide +kernel
theorem dX3_init_33 : decode cX3_init 33 = .ok (.invokespecial 17, 3) := by decide +kernel
theorem dX3_init_36 : decode cX3_init 36 = .ok (.aastore, 1) := by decide +kernel
theorem dX3_init_37 : decode cX3_init 37 = .ok (.iinc 1 1, 3) := by decide +kernel
theorem dX3_init_40 : decode cX3_init 40 = .ok (.goto (-25), 3) := by decide +kernel
theorem dX3_init_43 : decode cX3_init 43 = .ok (.return_, 1) := by decide +kernel
set_option maxRecDepth 20000 in
theorem ggX4_init_X5_init : GoodIn wsX4_init wsX5_init := goodIn_r _ [19, 20, 2, 3, 16, 21, 22, 23, 24, 25, 49, 50, 51, 52, 53, 54] (by decide +kernel) (by decide +kernel)
set_option maxRecDepth 20000 in
theorem gX4_init_X5_init_n11 : GoodIn wsX4_init (wsX5_init) := ggX4_init_X5_init
set_option maxRecDepth 20000 in
theorem ggX4_init_X2_init : GoodIn wsX4_init wsX2_init := goodIn_r _ [27, 28, 2, 3, 16, 29, 30, 31, 32, 33, 34, 35, 61, 62, 63, 64, 65, 66, 67, 68] (by decide +kernel) (by decide +kernel)
set_option maxRecDepth 20000 in
theorem gX4_init_X2_init_n20 : GoodIn wsX4_init (wsX2_init) := ggX4_init_X2_init
set_option maxRecDepth 20000 in
theorem ggX4_init_X1_init : GoodIn wsX4_init wsX1_init := goodIn_r _ [37, 38, 2, 3, 16, 39, 40, 41, 42, 43, 44, 45, 46, 47, 48, 69, 70, 71, 72, 73, 74, 75, 76, 77, 78, 79] (by decide +kernel) (by decide +kernel)
set_option maxRecDepth 20000 in
theorem gX4_init_X1_init_n27 : GoodIn wsX4_init (wsX1_init) := ggX4_init_X1_init
theorem dX4_init_0 : decode cX4_init 0 = .ok (.aload_n 0, 1) := by decide +kernel
theorem dX4_init_1 : decode cX4_init 1 = .ok (.invokespecial 3, 3) := by decide +kernel
theorem dX4_init_4 : decode cX4_init 4 = .ok (.aload_n 0, 1) := by decide +kernel
theorem dX4_init_5 : decode cX4_init 5 = .ok (.new 9, 3) := by decide +kernel
theorem dX4_init_8 : decode cX4_init 8 = .ok (.dup, 1) := by decide +kernel
theorem dX4_init_9 : decode cX4_init 9 = .ok (.invokespecial 11, 3) := by decide +kernel
theorem dX4_init_12 : decode cX4_init 12 = .ok (.putfield 12, 3) := by decide +kernel
theorem dX4_init_15 : decode cX4_init 15 = .ok (.aload_n 0, 1) := by decide +kernel
theorem dX4_init_16 : decode cX4_init 16 = .ok (.new 18, 3) := by decide +kernel
theorem dX4_init_19 : decode cX4_init 19 = .ok (.dup, 1) := by decide +kernel
theorem dX4_init_20 : decode cX4_init 20 = .ok (.invokespecial 20, 3) := by decide +kernel
theorem dX4_init_23 : decode cX4_init 23 = .ok (.putfield 21, 3) := by decide +kernel
theorem dX4_init_26 : decode cX4_init 26 = .ok (.aload_n 0, 1) := by decide +kernel
theorem dX4_init_27 : decode cX4_init 27 = .ok (.new 25, 3) := by decide +kernel
theorem dX4_init_30 : decode cX4_init 30 = .ok (.dup, 1) := by decide +kernel
theorem dX4_init_31 : decode cX4_init 31 = .ok (.invokespecial 27, 3) := by decide +kernel
theorem dX4_init_34 : decode cX4_init 34 = .ok (.putfield 28, 3) := by decide +kernel
theorem dX4_init_37 : decode cX4_init 37 = .ok (.aload_n 0, 1) := by decide +kernel
theorem dX4_init_38 : decode cX4_init 38 = .ok (.iconst 3, 1) := by decide +kernel
theorem dX4_init_39 : decode cX4_init 39 = .ok (.newarray .int, 2) := by decide +kernel
theorem dX4_init_41 : decode cX4_init 41 = .ok (.putfield 32, 3) := by decide +kernel
theorem dX4_init_44 : decode cX4_init 44 = .ok (.iconst 0, 1) := by decide +kernel
theorem dX4_init_45 : decode cX4_init 45 = .ok (.istore_n 1, 1) := by decide +kernel
theorem dX4_init_46 : decode cX4_init 46 = .ok (.iload_n 1, 1) := by decide +kernel
theorem dX4_init_47 : decode cX4_init 47 = .ok (.iconst 3, 1) := by decide +kernel
theorem dX4_init_48 : decode cX4_init 48 = .ok (.if_icmp .ge 20, 3) := by decide +kernel
theorem dX4_init_51 : decode cX4_init 51 = .ok (.aload_n 0, 1) := by decide +kernel
theorem dX4_init_52 : decode cX4_init 52 = .ok (.getfield 32, 3) := by decide +kernel
theorem dX4_init_55 : decode cX4_init 55 = .ok (.iload_n 1, 1) := by decide +kernel
theorem dX4_init_56 : decode cX4_init 56 = .ok (.getstatic 36, 3) := by decide +kernel
theorem dX4_init_59 : decode cX4_init 59 = .ok (.iload_n 1, 1) := by decide +kernel
theorem dX4_init_60 : decode cX4_init 60 = .ok (.iaload, 1) := by decide +kernel
theorem dX4_init_61 : decode cX4_init 61 = .ok (.iastore, 1) := by decide +kernel
theorem dX4_init_62 : decode cX4_init 62 = .ok (.iinc 1 1, 3) := by decide +kernel
theorem dX4_init_65 : decode cX4_init 65 = .ok (.goto (-19), 3) := by decide +kernel
theorem dX4_init_68 : decode cX4_init 68 = .ok (.return_, 1) := by decide +kernel
theorem dX5_init_0 : decode cX5_init 0 = .ok (.aload_n 0, 1) := by decide +kernel
theorem dX5_init_1 : decode cX5_init 1 = .ok (.invokespecial 3, 3) := by decide +kernel
theorem dX5_init_4 : decode cX5_init 4 = .ok (.aload_n 0, 1) := by decide +kernel
theorem dX5_init_5 : decode cX5_init 5 = .ok (.bipush 8, 2) := by decide +kernel
theorem dX5_init_7 : decode cX5_init 7 = .ok (.newarray .int, 2) := by decide +kernel
theorem dX5_init_9 : decode cX5_init 9 = .ok (.putfield 9, 3) := by decide +kernel
theorem dX5_init_12 : decode cX5_init 12 = .ok (.aload_n 0, 1) := by decide +kernel
theorem dX5_init_13 : decode cX5_init 13 = .ok (.bipush 8, 2) := by decide +kernel
theorem dX5_init_15 : decode cX5_init 15 = .ok (.newarray .int, 2) := by decide +kernel
theorem dX5_init_17 : decode cX5_init 17 = .ok (.putfield 15, 3) := by decide +kernel
theorem dX5_init_20 : decode cX5_init 20 = .ok (.aload_n 0, 1) := by decide +kernel
theorem dX5_init_21 : decode cX5_init 21 = .ok (.bipush 8, 2) := by decide +kernel
theorem dX5_init_23 : decode cX5_init 23 = .ok (.newarray .int, 2) := by decide +kernel
theorem dX5_init_25 : decode cX5_init 25 = .ok (.putfield 18, 3) := by decide +kernel
theorem dX5_init_28 : decode cX5_init 28 = .ok (.aload_n 0, 1) := by decide +kernel
theorem dX5_init_29 : decode cX5_init 29 = .ok (.bipush 8, 2) := by decide +kernel
theorem dX5_init_31 : decode cX5_init 31 = .ok (.newarray .int, 2) := by decide +kernel
theorem dX5_init_33 : decode cX5_init 33 = .ok (.putfield 21, 3) := by decide +kernel
theorem dX5_init_36 : decode cX5_init 36 = .ok (.aload_n 0, 1) := by decide +kernel
theorem dX5_init_37 : decode cX5_init 37 = .ok (.bipush 8, 2) := by decide +kernel
theorem dX5_init_39 : decode cX5_init 39 = .ok (.newarray .int, 2) := by decide +kernel
theorem dX5_init_41 : decode cX5_init 41 = .ok (.putfield 24, 3) := by decide +kernel
theorem dX5_init_44 : decode cX5_init 44 = .ok (.return_, 1) := by decide +kernel
set_option maxRecDepth 20000 in
theorem ggX6_init_X4_init : GoodIn wsX6_init wsX4_init := goodIn_r _ [22, 23, 2, 3, 24, 25, 26, 27, 28, 29, 30, 31, 32, 33, 34, 35, 36, 37, 38, 39, 40, 41, 42, 43, 44, 45, 46, 47, 48, 49, 50, 51, 52, 53, 54, 55, 56, 57, 58, 59, 60, 61, 62, 63, 64, 65, 66, 67, 68, 104, 105, 106, 107, 108, 109, 81, 82, 83, 84, 85, 86, 110, 111, 112, 113, 114, 115, 116, 117, 118, 119, 120, 121, 122, 123, 124, 125, 126, 127, 128] (by decide +kernel) (by decide +kernel)
set_option maxRecDepth 20000 in
theorem gX6_init_X4_init : GoodIn wsX6_init (wsX4_init) := ggX6_init_X4_init
set_option maxRecDepth 20000 in
theorem ggX6_init_X3_init : GoodIn wsX6_init wsX3_init := goodIn_r _ [71, 72, 2, 3, 73, 74, 5, 6, 75, 21, 22, 23, 24, 25, 26, 27, 28, 29, 30, 31, 32, 33, 34, 35, 36, 37, 38, 39, 40, 41, 42, 43, 44, 45, 46, 47, 48, 49, 50, 51, 52, 53, 54, 55, 56, 57, 58, 59, 60, 61, 62, 63, 64, 65, 66, 67, 68, 93, 94, 95, 81, 82, 83, 84, 85, 86, 104, 105, 106, 107, 108, 109, 110, 111, 112, 113, 114, 115, 116, 117, 118, 119, 120, 121, 122, 123, 124, 125, 126, 127, 128] (by decide +kernel) (by decide +kernel)
set_option maxRecDepth 20000 in
theorem gX6_init_X3_init : GoodIn wsX6_init (wsX3_init) := ggX6_init_X3_init
set_option maxRecDepth 20000 in
theorem ggX6_init_X0_init : GoodIn wsX6_init wsX0_init := goodIn_r _ [77, 78, 2, 3, 36, 79, 80, 96, 97, 98, 99, 100, 101, 102, 103] (by decide +kernel) (by decide +kernel)
set_option maxRecDepth 20000 in
theorem gX6_init_X0_init_n36 : GoodIn wsX6_init (wsX0_init) := ggX6_init_X0_init
theorem dX6_init_0 : decode cX6_init 0 = .ok (.aload_n 0, 1) := by decide +kernel
theorem dX6_init_1 : decode cX6_init 1 = .ok (.invokespecial 1, 3) := by decide +kernel
theorem dX6_init_4 : decode cX6_init 4 = .ok (.aload_n 0, 1) := by decide +kernel
theorem dX6_init_5 : decode cX6_init 5 = .ok (.new 7, 3) := by decide +kernel
theorem dX6_init_8 : decode cX6_init 8 = .ok (.dup, 1) := by decide +kernel
theorem dX6_init_9 : decode cX6_init 9 = .ok (.invokespecial 9, 3) := by decide +kernel
theorem dX6_init_12 : decode cX6_init 12 = .ok (.putfield 10, 3) := by decide +kernel
theorem dX6_init_15 : decode cX6_init 15 = .ok (.aload_n 0, 1) := by decide +kernel
theorem dX6_init_16 : decode cX6_init 16 = .ok (.new 7, 3) := by decide +kernel
theorem dX6_init_19 : decode cX6_init 19 = .ok (.dup, 1) := by decide +kernel
theorem dX6_init_20 : decode cX6_init 20 = .ok (.invokespecial 9, 3) := by decide +kernel
theorem dX6_init_23 : decode cX6_init 23 = .ok (.putfield 16, 3) := by decide +kernel
theorem dX6_init_26 : decode cX6_init 26 = .ok (.aload_n 0, 1) := by decide +kernel
theorem dX6_init_27 : decode cX6_init 27 = .ok (.new 19, 3) := by decide +kernel
theorem dX6_init_30 : decode cX6_init 30 = .ok (.dup, 1) := by decide +kernel
theorem dX6_init_31 : decode cX6_init 31 = .ok (.invokespecial 21, 3) := by decide +kernel
theorem dX6_init_34 : decode cX6_init 34 = .ok (.putfield 22, 3) := by decide +kernel
theorem dX6_init_37 : decode cX6_init 37 = .ok (.aload_n 0, 1) := by decide +kernel
theorem dX6_init_38 : decode cX6_init 38 = .ok (.iconst 2, 1) := by decide +kernel
theorem dX6_init_39 : decode cX6_init 39 = .ok (.anewarray 7, 3) := by decide +kernel
theorem dX6_init_42 : decode cX6_init 42 = .ok (.putfield 26, 3) := by decide +kernel
theorem dX6_init_45 : decode cX6_init 45 = .ok (.iconst 0, 1) := by decide +kernel
theorem dX6_init_46 : decode cX6_init 46 = .ok (.istore_n 1, 1) := by decide +kernel
theorem dX6_init_47 : decode cX6_init 47 = .ok (.iload_n 1, 1) := by decide +kernel
theorem dX6_init_48 : decode cX6_init 48 = .ok (.iconst 2, 1) := by decide +kernel
theorem dX6_init_49 : decode cX6_init 49 = .ok (.if_icmp .ge 22, 3) := by decide +kernel
theorem dX6_init_52 : decode cX6_init 52 = .ok (.aload_n 0, 1) := by decide +kernel
theorem dX6_init_53 : decode cX6_init 53 = .ok (.getfield 26, 3) := by decide +kernel
theorem dX6_init_56 : decode cX6_init 56 = .ok (.iload_n 1, 1) := by decide +kernel
theorem dX6_init_57 : decode cX6_init 57 = .ok (.new 7, 3) := by decide +kernel
theorem dX6_init_60 : decode cX6_init 60 = .ok (.dup, 1) := by decide +kernel
theorem dX6_init_61 : decode cX6_init 61 = .ok (.invokespecial 9, 3) := by decide +kernel
theorem dX6_init_64 : decode cX6_init 64 = .ok (.aastore, 1) := by decide +kernel
theorem dX6_init_65 : decode cX6_init 65 = .ok (.iinc 1 1, 3) := by decide +kernel
theorem dX6_init_68 : decode cX6_init 68 = .ok (.goto (-21), 3) := by decide +kernel
theorem dX6_init_71 : decode cX6_init 71 = .ok (.aload_n 0, 1) := by decide +kernel
theorem dX6_init_72 : decode cX6_init 72 = .ok (.iconst 2, 1) := by decide +kernel
theorem dX6_init_73 : decode cX6_init 73 = .ok (.newarray .boolean, 2) := by decide +kernel
theorem dX6_init_75 : decode cX6_init 75 = .ok (.putfield 30, 3) := by decide +kernel
theorem dX6_init_78 : decode cX6_init 78 = .ok (.aload_n 0, 1) := by decide +kernel
theorem dX6_init_79 : decode cX6_init 79 = .ok (.new 34, 3) := by decide +kernel
theorem dX6_init_82 : decode cX6_init 82 = .ok (.dup, 1) := by decide +kernel
theorem dX6_init_83 : decode cX6_init 83 = .ok (.invokespecial 36, 3) := by decide +kernel
theorem dX6_init_86 : decode cX6_init 86 = .ok (.putfield 37, 3) := by decide +kernel
theorem dX6_init_89 : decode cX6_init 89 = .ok (.return_, 1) := by decide +kernel
theorem dJ9_min_7cf53_0 : decode cJ9_min_7cf53 0 = .ok (.iload_n 0, 1) := by decide +kernel
theorem dJ9_min_7cf53_1 : decode cJ9_min_7cf53 1 = .ok (.iload_n 1, 1) := by decide +kernel
theorem dJ9_min_7cf53_2 : decode cJ9_min_7cf53 2 = .ok (.if_icmp .gt 7, 3) := by decide +kernel
theorem dJ9_min_7cf53_5 : decode cJ9_min_7cf53 5 = .ok (.iload_n 0, 1) := by decide +kernel
theorem dJ9_min_7cf53_6 : decode cJ9_min_7cf53 6 = .ok (.goto 4, 3) := by decide +kernel
theorem dJ9_min_7cf53_9 : decode cJ9_min_7cf53 9 = .ok (.iload_n 1, 1) := by decide +kernel
theorem dJ9_min_7cf53_10 : decode cJ9_min_7cf53 10 = .ok (.ireturn, 1) := by decide +kernel
set_option maxRecDepth 20000 in
theorem ggL_law_X6_init : GoodIn wsL_law wsX6_init := goodIn_r _ [7, 8, 9, 10, 11, 12, 13, 14, 15, 16, 17, 18, 19, 20, 21, 22, 23, 24, 25, 26, 27, 28, 29, 30, 31, 32, 33, 34, 35, 36, 37, 38, 39, 40, 41, 42, 3, 43, 44, 45, 46, 47, 48, 49, 50, 51, 52, 53, 54, 55, 56, 57, 58, 59, 60, 61, 62, 63, 64, 65, 66, 67, 68, 69, 70, 71, 72, 73, 74, 75, 76, 77, 78, 79, 80, 81, 82, 83, 84, 85, 86, 477, 478, 479, 480, 481, 482, 471, 472, 473, 474, 475, 476, 483, 484, 485, 486, 487, 488, 489, 490, 491, 492, 493, 494, 495, 496, 497, 498, 499, 500, 501, 502, 503, 504, 505, 506, 507, 508, 509, 510, 511, 512, 513, 514, 515, 516, 517, 518] (by decide +kernel) (by decide +kernel)
set_option maxRecDepth 20000 in
theorem gL_law_X6_init : GoodIn wsL_law (wsX6_init) := ggL_law_X6_init
abbrev vwCl : List vw_C := [(RX0, TX0, 8), (RX1, TX1, 11), (RX2, TX2, 8), (RX3, TX3, 3), (RX4, TX4, 6), (RX5, TX5, 6), (RX6, TX6, 6)]
/-! ===== END printed: names ===== -/
end
section
/-! AN ABSTRACT MACHINE over numbers: cells by kind c and block b, slots j; a pure function; proved sound against the machine's rows, once, in part 04. -/
abbrev aV : Type := Int32 ⊕ (Nat × Nat)
abbrev aM : Type := Nat → Nat → Nat → Int32
abbrev aL : Type := List (Option aV)
abbrev aO : Type := Option (Option aV × aM)
/-- a row of code: the instruction, two resolved numbers, the place of its word -/
abbrev aR : Type := Instr × Nat × Nat × Nat
abbrev aS : Type := Nat × aL × List aV × aM
def a_up (m : aM) (c b j : Nat) (v : Int32) : aM := fun c' b' j' => if c' = c ∧ b' = b ∧ j' = j then v else m c' b' j'
/-- what a cell is: an object of a class (0), a row of ints (1), of booleans (2), of references (3), a static row (4), the script (5) -/
def a_kds : List (Nat × Nat) := [(0, 4), (0, 5), (0, 2), (0, 1), (1, 8), (1, 8), (1, 8), (1, 8), (1, 8), (1, 8), (1, 8), (1, 8), (1, 8), (1, 8), (1, 8), (1, 8), (1, 16), (1, 16), (1, 16), (1, 16), (1, 16), (1, 16), (1, 16), (1, 16), (1, 16), (1, 16), (1, 3), (0, 6), (0, 3), (3, 6), (3, 2), (2, 2), (0, 0), (1, 80), (1, 8), (1, 40), (1, 56), (1, 64), (1, 48), (1, 48), (9, 0), (4, 5), (4, 4), (4, 3), (4, 3), (4, 3), (5, 0)]
def a_kd (c : Nat) : Nat × Nat := a_kds.getD c (9, 0)
/-- the references that an object's fields hold for good: the kind, the block (none: the object's own) -/
def a_frs : List (List (Option (Nat × Option Nat))) := [
  [some (1, none), some (2, none), some (3, none), some (26, none), none, none],
  [some (4, none), some (5, none), some (6, none), some (7, none), some (8, none), none],
  [some (9, none), some (10, none), some (11, none), some (12, none), some (13, none), some (14, none), some (15, none), none],
  [some (16, none), some (17, none), some (18, none), some (19, none), some (20, none), some (21, none), some (22, none), some (23, none), some (24, none), some (25, none), none],
  [], [], [], [], [], [], [], [], [], [], [], [], [], [], [], [], [], [], [], [], [], [], [],
  [some (0, some 0), some (0, some 1), some (28, some 0), some (30, some 0), some (31, some 0), some (32, some 0)],
  [some (29, some 0), none, none],
  [], [], [],
  [some (33, some 0), none, none, none, none, none, none, none]]
def a_ft (c k : Nat) : Option (Nat × Option Nat) := (a_frs.getD c []).getD k none
def a_fr (c b k : Nat) : Option (Nat × Nat) := match a_ft c k with
  | none => none
  | some (c', none) => some (c', b)
  | some (c', some d) => some (c', d)
def a_nf (c : Nat) : Nat := (a_frs.getD c []).length
/-- the one boolean field -/
def a_bf (ci k : Nat) : Bool := ci == 7 && k == 6
/-- the block of the state that a row of states holds at j -/
def a_el (c j : Nat) : Nat := if c = 29 then 2 + j else 8 + j
def a_sn (c : Nat) : String := if c = 41 then "RADII" else if c = 42 then "REACHES" else if c = 43 then "FIRST_VALUES" else if c = 44 then "LEAST_VALUES" else "GREATEST_VALUES"
/-- how long a row is -/
def a_ln (m : aM) (c : Nat) : Nat := if c = 46 then (m 47 0 0).toNatClampNeg else (a_kd c).2
def a_in (i : Int32) (n : Nat) : Bool := decide (¬ i < 0) && decide (i.toNatClampNeg < n)
theorem a_in_vp {i : Int32} {n : Nat} (h : a_in i n = true) : vp_in i n := by
  simp only [a_in, Bool.and_eq_true, decide_eq_true_eq] at h
  exact fun q => q.elim h.1 (fun q => absurd h.2 (Nat.not_lt.mpr q))
/-! ways to take a stack or a place apart -/
def a_l1 (ls : aL) (k : Nat) (f : Int32 → Option aS) : Option aS := match ls[k]? with
  | some (some (.inl x)) => f x
  | _ => none
def a_lr (ls : aL) (k : Nat) (f : Nat → Nat → Option aS) : Option aS := match ls[k]? with
  | some (some (.inr (c, b))) => f c b
  | _ => none
def a_p0 (st : List aV) (f : aV → List aV → Option aS) : Option aS := match st with
  | v :: t => f v t
  | _ => none
def a_p1 (st : List aV) (f : Int32 → List aV → Option aS) : Option aS := match st with
  | .inl x :: t => f x t
  | _ => none
def a_pr (st : List aV) (f : Nat → Nat → List aV → Option aS) : Option aS := match st with
  | .inr (c, b) :: t => f c b t
  | _ => none
def a_p2 (st : List aV) (f : Int32 → Int32 → List aV → Option aS) : Option aS := match st with
  | .inl y :: .inl x :: t => f x y t
  | _ => none
def a_pv (st : List aV) (f : aV → aV → List aV → Option aS) : Option aS := match st with
  | v :: u :: t => f v u t
  | _ => none
def a_p1r (st : List aV) (f : Int32 → Nat → Nat → List aV → Option aS) : Option aS := match st with
  | .inl x :: .inr (c, b) :: t => f x c b t
  | _ => none
def a_p2r (st : List aV) (f : Int32 → Int32 → Nat → Nat → List aV → Option aS) : Option aS := match st with
  | .inl x :: .inl i :: .inr (c, b) :: t => f x i c b t
  | _ => none
def a_pcp (st : List aV) (f : Int32 → Int32 → Nat → Nat → Int32 → Nat → Nat → Option aS) : Option aS := match st with
  | [.inl n, .inl dp, .inr (c1, b1), .inl sp, .inr (c0, b0)] => f n dp c1 b1 sp c0 b0
  | _ => none
theorem a_l1_i {ls : aL} {k : Nat} {f : Int32 → Option aS} {z : aS} (h : a_l1 ls k f = some z) : ∃ x, ls[k]? = some (some (.inl x)) ∧ f x = some z := by
  unfold a_l1 at h
  split at h
  · rename_i e; exact ⟨_, e, h⟩
  · cases h
theorem a_lr_i {ls : aL} {k : Nat} {f : Nat → Nat → Option aS} {z : aS} (h : a_lr ls k f = some z) : ∃ c b, ls[k]? = some (some (.inr (c, b))) ∧ f c b = some z := by
  unfold a_lr at h
  split at h
  · rename_i e; exact ⟨_, _, e, h⟩
  · cases h
theorem a_p0_i {st : List aV} {f : aV → List aV → Option aS} {z : aS} (h : a_p0 st f = some z) : ∃ v t, st = v :: t ∧ f v t = some z := by
  unfold a_p0 at h
  split at h
  · exact ⟨_, _, rfl, h⟩
  · cases h
theorem a_p1_i {st : List aV} {f : Int32 → List aV → Option aS} {z : aS} (h : a_p1 st f = some z) : ∃ x t, st = .inl x :: t ∧ f x t = some z := by
  unfold a_p1 at h
  split at h
  · exact ⟨_, _, rfl, h⟩
  · cases h
theorem a_pr_i {st : List aV} {f : Nat → Nat → List aV → Option aS} {z : aS} (h : a_pr st f = some z) : ∃ c b t, st = .inr (c, b) :: t ∧ f c b t = some z := by
  unfold a_pr at h
  split at h
  · exact ⟨_, _, _, rfl, h⟩
  · cases h
theorem a_p2_i {st : List aV} {f : Int32 → Int32 → List aV → Option aS} {z : aS} (h : a_p2 st f = some z) : ∃ x y t, st = .inl y :: .inl x :: t ∧ f x y t = some z := by
  unfold a_p2 at h
  split at h
  · exact ⟨_, _, _, rfl, h⟩
  · cases h
theorem a_pv_i {st : List aV} {f : aV → aV → List aV → Option aS} {z : aS} (h : a_pv st f = some z) : ∃ v u t, st = v :: u :: t ∧ f v u t = some z := by
  unfold a_pv at h
  split at h
  · exact ⟨_, _, _, rfl, h⟩
  · cases h
theorem a_p1r_i {st : List aV} {f : Int32 → Nat → Nat → List aV → Option aS} {z : aS} (h : a_p1r st f = some z) : ∃ x c b t, st = .inl x :: .inr (c, b) :: t ∧ f x c b t = some z := by
  unfold a_p1r at h
  split at h
  · exact ⟨_, _, _, _, rfl, h⟩
  · cases h
theorem a_p2r_i {st : List aV} {f : Int32 → Int32 → Nat → Nat → List aV → Option aS} {z : aS} (h : a_p2r st f = some z) : ∃ x i c b t, st = .inl x :: .inl i :: .inr (c, b) :: t ∧ f x i c b t = some z := by
  unfold a_p2r at h
  split at h
  · exact ⟨_, _, _, _, _, rfl, h⟩
  · cases h
theorem a_pcp_i {st : List aV} {f : Int32 → Int32 → Nat → Nat → Int32 → Nat → Nat → Option aS} {z : aS} (h : a_pcp st f = some z) : ∃ n dp c1 b1 sp c0 b0, st = [.inl n, .inl dp, .inr (c1, b1), .inl sp, .inr (c0, b0)] ∧ f n dp c1 b1 sp c0 b0 = some z := by
  unfold a_pcp at h
  split at h
  · exact ⟨_, _, _, _, _, _, _, rfl, h⟩
  · cases h
theorem a_if_i {α : Type} {p : Prop} [Decidable p] {x : Option α} {z : α} (h : (if p then x else none) = some z) : p ∧ x = some z := by
  split at h
  · exact ⟨‹_›, h⟩
  · cases h
/-- a comparison of two numbers -/
def a_cc (k : Jvm.ClassFile.Cond) (x y : Int32) : Bool := match k with
  | .eq => decide (x = y)
  | .ne => decide (¬ x = y)
  | .lt => decide (x < y)
  | .ge => decide (y ≤ x)
  | .gt => decide (y < x)
  | .le => decide (x ≤ y)
def a_st (ls : aL) (k : Nat) (v : aV) (f : aL → Option aS) : Option aS := if k < ls.length then f (ls.set k (some v)) else none
/-- where a switch goes -/
def a_tg (pc : Nat) (off : Int) : Nat := ((pc : Int) + off).toNat
def a_ts (pc : Nat) (dflt lo hi : Int) (offs : Array Int) (x : Int32) : Nat := if x.toInt < lo ∨ hi < x.toInt then a_tg pc dflt else match offs[(x.toInt - lo).toNat]? with
  | some off => a_tg pc off
  | none => 0
def a_lk (pc : Nat) (dflt : Int) (ps : Array (Int × Int)) (x : Int32) : Nat := a_tg pc (Op.lookupswitch.offset ps.toList dflt x.toInt)
/-- one step that is no call of a method of ours and no end -/
def a_step (ins : Instr) (a b : Nat) (pc : Nat) (ls : aL) (st : List aV) (m : aM) : Option aS :=
  match ins with
  | .aload_n k => a_lr ls k fun c d => some (pc + 1, ls, .inr (c, d) :: st, m)
  | .aload k => a_lr ls k fun c d => some (pc + 2, ls, .inr (c, d) :: st, m)
  | .iload_n k => a_l1 ls k fun x => some (pc + 1, ls, .inl x :: st, m)
  | .iload k => a_l1 ls k fun x => some (pc + 2, ls, .inl x :: st, m)
  | .istore_n k => a_p1 st fun x t => a_st ls k (.inl x) fun ls1 => some (pc + 1, ls1, t, m)
  | .istore k => a_p1 st fun x t => a_st ls k (.inl x) fun ls1 => some (pc + 2, ls1, t, m)
  | .astore_n k => a_pr st fun c d t => a_st ls k (.inr (c, d)) fun ls1 => some (pc + 1, ls1, t, m)
  | .iinc k n => a_l1 ls k fun x => a_st ls k (.inl (x + Int32.ofInt n)) fun ls1 => some (pc + 3, ls1, st, m)
  | .iconst n => some (pc + 1, ls, .inl (Int32.ofInt n) :: st, m)
  | .bipush n => some (pc + 2, ls, .inl (Int8.ofInt n).toInt32 :: st, m)
  | .sipush n => some (pc + 3, ls, .inl (Int16.ofInt n).toInt32 :: st, m)
  | .iadd => a_p2 st fun x y t => some (pc + 1, ls, .inl (x + y) :: t, m)
  | .isub => a_p2 st fun x y t => some (pc + 1, ls, .inl (x - y) :: t, m)
  | .imul => a_p2 st fun x y t => some (pc + 1, ls, .inl (x * y) :: t, m)
  | .iand => a_p2 st fun x y t => some (pc + 1, ls, .inl (x &&& y) :: t, m)
  | .ixor => a_p2 st fun x y t => some (pc + 1, ls, .inl (x ^^^ y) :: t, m)
  | .ishr => a_p2 st fun x y t => some (pc + 1, ls, .inl (x >>> (y &&& 31)) :: t, m)
  | .ldc _ => some (pc + 2, ls, .inl (nI a) :: st, m)
  | .idiv => a_p2 st fun x y t => if ¬ y = 0 then some (pc + 1, ls, .inl (x / y) :: t, m) else none
  | .irem => a_p2 st fun x y t => if ¬ y = 0 then some (pc + 1, ls, .inl (x - x / y * y) :: t, m) else none
  | .dup => a_p0 st fun v t => some (pc + 1, ls, v :: v :: t, m)
  | .dup2 => a_pv st fun v u t => some (pc + 1, ls, v :: u :: v :: u :: t, m)
  | .pop => a_p0 st fun _ t => some (pc + 1, ls, t, m)
  | .goto _ => some (a, ls, st, m)
  | .ifCond k _ => a_p1 st fun x t => some (if a_cc k x 0 = true then a else pc + 3, ls, t, m)
  | .if_icmp k _ => a_p2 st fun x y t => some (if a_cc k x y = true then a else pc + 3, ls, t, m)
  | .tableswitch dflt lo hi offs => a_p1 st fun x t => if ((pc : Int) + dflt ≥ 0 ∧ ∀ o ∈ offs.toList, (pc : Int) + o ≥ 0) ∧ (x.toInt < lo ∨ hi < x.toInt ∨ (x.toInt - lo).toNat < offs.size) then some (a_ts pc dflt lo hi offs x, ls, t, m) else none
  | .lookupswitch dflt ps => a_p1 st fun x t => if (pc : Int) + Op.lookupswitch.offset ps.toList dflt x.toInt ≥ 0 then some (a_lk pc dflt ps x, ls, t, m) else none
  | .getfield _ => a_pr st fun c d t => if a_kd c = (0, a) then (match a_fr c d b with
      | some r => some (pc + 3, ls, .inr r :: t, m)
      | none => some (pc + 3, ls, .inl (m c d b) :: t, m)) else none
  | .putfield _ => a_p1r st fun x c d t => if (a_kd c = (0, a) ∧ a_fr c d b = none) ∧ (a_bf a b = true → x = 0 ∨ x = 1) then some (pc + 3, ls, t, a_up m c d b x) else none
  | .getstatic _ => some (pc + 3, ls, .inr (a, 0) :: st, m)
  | .iaload => a_p1r st fun i c d t => if ((a_kd c).1 = 1 ∨ (a_kd c).1 = 4 ∨ (a_kd c).1 = 5) ∧ a_in i (a_ln m c) = true then some (pc + 1, ls, .inl (m c d i.toNatClampNeg) :: t, m) else none
  | .baload => a_p1r st fun i c d t => if (a_kd c).1 = 2 ∧ a_in i (a_ln m c) = true then some (pc + 1, ls, .inl (m c d i.toNatClampNeg) :: t, m) else none
  | .aaload => a_p1r st fun i c _ t => if (a_kd c).1 = 3 ∧ a_in i (a_ln m c) = true then some (pc + 1, ls, .inr (0, a_el c i.toNatClampNeg) :: t, m) else none
  | .iastore => a_p2r st fun x i c d t => if (a_kd c).1 = 1 ∧ a_in i (a_ln m c) = true then some (pc + 1, ls, t, a_up m c d i.toNatClampNeg x) else none
  | .bastore => a_p2r st fun x i c d t => if ((a_kd c).1 = 2 ∧ a_in i (a_ln m c) = true) ∧ (x = 0 ∨ x = 1) then some (pc + 1, ls, t, a_up m c d i.toNatClampNeg x) else none
  | .arraylength => a_pr st fun c _ t => if (a_kd c).1 = 1 ∨ (a_kd c).1 = 5 then some (pc + 1, ls, .inl (nI (a_ln m c)) :: t, m) else none
  | .invokestatic _ => if a = 1000 then a_p2 st fun x y t => (if t.length ≤ 8 then some (pc + 3, ls, .inl (if y < x then y else x) :: t, m) else none)
      else if a = 1001 then a_pcp st fun n dp c1 b1 sp c0 b0 => (if ((a_kd c0).1 = 1 ∧ (a_kd c1).1 = 1) ∧ (¬ sp < 0 ∧ ¬ dp < 0 ∧ ¬ n < 0) ∧ sp.toNatClampNeg + n.toNatClampNeg ≤ (a_kd c0).2 ∧ dp.toNatClampNeg + n.toNatClampNeg ≤ (a_kd c1).2 then
        some (pc + 3, ls, [], fun c b j => if c = c1 ∧ b = b1 then va_cpy (m c0 b0) (m c1 b1) sp.toNatClampNeg dp.toNatClampNeg n.toNatClampNeg j else m c b j) else none)
      else none
  | _ => none
/-- the end of a method -/
def a_ret (ret : Option FieldType) (ins : Instr) (st : List aV) : Option (Option aV) := match ins, ret, st with
  | .ireturn, some .int, [.inl v] => some (some (.inl v))
  | .ireturn, some .boolean, [.inl v] => if v = 0 ∨ v = 1 then some (some (.inl v)) else none
  | .return_, none, [] => some none
  | _, _, _ => none
/-- a method: name, bytes, places, answer, how deep it calls, its receiver's class, the places of its words -/
abbrev aMt : Type := MethodName × ByteArray × Nat × Option FieldType × Nat × Nat × Nat × Nat × Nat × Nat
end
section
/-! the tables: methods, words of nest mates, code rows resolved; by program (wip/p34/gen3.py) -/
def a_nst : List Cond := [Cond.methodLinkNest RX5 34 yX6_copyRow "VacantAir", Cond.methodLinkNest RX2 41 yX6_copyRow "VacantAir", Cond.methodLinkNest RX1 61 yX6_copyRow "VacantAir", Cond.methodLinkNest RX4 49 yX6_copyRow "VacantAir", Cond.methodLinkNest RX4 205 yX6_isWithin "VacantAir", Cond.methodLinkNest RX4 60 yX6_isNoPlace "VacantAir", Cond.methodLinkNest RX4 64 yX6_isOutside "VacantAir", Cond.fieldLinkNest RX4 36 "VacantAir" "FIRST_VALUES" "[I" "VacantAir", Cond.fieldLinkNest RX4 214 "VacantAir" "RADII" "[I" "VacantAir", Cond.fieldLinkNest RX4 202 "VacantAir" "REACHES" "[I" "VacantAir", Cond.fieldLinkNest RX5 31 "VacantAir" "RADII" "[I" "VacantAir", Cond.fieldLinkNest RX4 124 "VacantAir" "LEAST_VALUES" "[I" "VacantAir", Cond.fieldLinkNest RX4 127 "VacantAir" "GREATEST_VALUES" "[I" "VacantAir"]
def a_m0 : aMt := (yX1_has, cX1_has, 2, some .boolean, 0, 1, 903, 901, 902, 117)
def a_m1 : aMt := (yX1_has, cX1_has, 2, some .boolean, 0, 1, 903, 901, 902, 117)
def a_m2 : aMt := (yX1_has, cX1_has, 2, some .boolean, 0, 1, 903, 901, 902, 117)
def a_m3 : aMt := (yX1_has, cX1_has, 2, some .boolean, 0, 1, 903, 901, 902, 117)
def a_m4 : aMt := (yX1_has, cX1_has, 2, some .boolean, 0, 1, 903, 901, 902, 117)
def a_m5 : aMt := (yX1_has, cX1_has, 2, some .boolean, 0, 1, 903, 901, 902, 117)
def a_m6 : aMt := (yX1_has, cX1_has, 2, some .boolean, 0, 1, 903, 901, 902, 117)
def a_m7 : aMt := (yX1_has, cX1_has, 2, some .boolean, 0, 1, 903, 901, 902, 117)
def a_m8 : aMt := (yX1_has, cX1_has, 2, some .boolean, 0, 1, 903, 901, 902, 117)
def a_m9 : aMt := (yX1_has, cX1_has, 2, some .boolean, 0, 1, 903, 901, 902, 117)
def a_m10 : aMt := (yX1_hasLease, cX1_hasLease, 2, some .boolean, 0, 1, 615, 613, 614, 117)
def a_m11 : aMt := (yX1_hasNotice, cX1_hasNotice, 2, some .boolean, 0, 1, 916, 914, 915, 117)
def a_m12 : aMt := (yX1_putOn, cX1_putOn, 4, none, 0, 1, 1709, 1707, 1708, 117)
def a_m13 : aMt := (yX1_removeLease, cX1_removeLease, 2, none, 0, 1, 1414, 1412, 1413, 117)
def a_m14 : aMt := (yX1_tell, cX1_tell, 3, some .int, 1, 1, 911, 909, 910, 117)
def a_m15 : aMt := (yX1_countLeases, cX1_countLeases, 3, some .int, 1, 1, 1101, 1023, 1100, 117)
def a_m16 : aMt := (yX1_countOn, cX1_countOn, 4, some .int, 0, 1, 1000, 922, 923, 117)
def a_m17 : aMt := (yX1_countNotices, cX1_countNotices, 3, some .int, 1, 1, 1105, 1103, 1104, 117)
def a_m18 : aMt := (yX1_sumOf, cX1_sumOf, 4, some .int, 0, 1, 1109, 1107, 1108, 117)
def a_m19 : aMt := (yX1_has, cX1_has, 2, some .boolean, 0, 1, 903, 901, 902, 117)
def a_m20 : aMt := (yX1_has, cX1_has, 2, some .boolean, 0, 1, 903, 901, 902, 117)
def a_m21 : aMt := (yX1_has, cX1_has, 2, some .boolean, 0, 1, 903, 901, 902, 117)
def a_m22 : aMt := (yX1_copyFrom, cX1_copyFrom, 2, none, 2, 1, 610, 608, 609, 117)
def a_m23 : aMt := (yX2_has, cX2_has, 2, some .boolean, 0, 2, 814, 812, 813, 113)
def a_m24 : aMt := (yX2_isOn, cX2_isOn, 3, some .boolean, 0, 2, 800, 722, 723, 113)
def a_m25 : aMt := (yX2_tell, cX2_tell, 4, some .int, 1, 2, 818, 816, 817, 113)
def a_m26 : aMt := (yX2_copyFrom, cX2_copyFrom, 2, none, 2, 2, 605, 603, 604, 113)
def a_m27 : aMt := (yX3_note, cX3_note, 2, none, 4, 3, 1210, 1208, 1209, 18)
def a_m28 : aMt := (yX3_keepNoted, cX3_keepNoted, 1, none, 0, 3, 1303, 1301, 1302, 18)
def a_m29 : aMt := (yX1_has, cX1_has, 2, some .boolean, 0, 1, 903, 901, 902, 117)
def a_m30 : aMt := (yX4_copyFrom, cX4_copyFrom, 2, none, 3, 4, 509, 507, 508, 13)
def a_m31 : aMt := (yX4_putStation, cX4_putStation, 6, some .int, 2, 4, 1217, 1215, 1216, 13)
def a_m32 : aMt := (yX4_putEvent, cX4_putEvent, 8, some .int, 4, 4, 1311, 1309, 1310, 13)
def a_m33 : aMt := (yX4_putDevice, cX4_putDevice, 5, some .int, 2, 4, 1409, 1407, 1408, 13)
def a_m34 : aMt := (yX4_change, cX4_change, 4, some .int, 4, 4, 1602, 1600, 1601, 13)
def a_m35 : aMt := (yX4_turnStation, cX4_turnStation, 3, some .int, 4, 4, 1504, 1502, 1503, 13)
def a_m36 : aMt := (yX4_callOff, cX4_callOff, 2, some .int, 4, 4, 1517, 1515, 1516, 13)
def a_m37 : aMt := (yX4_makeLease, cX4_makeLease, 4, some .int, 4, 4, 1610, 1608, 1609, 13)
def a_m38 : aMt := (yX4_prolongLease, cX4_prolongLease, 3, some .int, 1, 4, 1717, 1715, 1716, 13)
def a_m39 : aMt := (yX4_dropLease, cX4_dropLease, 2, some .int, 2, 4, 1801, 1723, 1800, 13)
def a_m40 : aMt := (yX4_passHours, cX4_passHours, 4, some .int, 5, 4, 1818, 1816, 1817, 13)
def a_m41 : aMt := (yX4_passOneHour, cX4_passOneHour, 3, some .int, 4, 4, 1822, 1820, 1821, 13)
def a_m42 : aMt := (yX4_endLeases, cX4_endLeases, 2, none, 1, 4, 1902, 1900, 1901, 13)
def a_m43 : aMt := (yX4_review, cX4_review, 2, none, 3, 4, 1318, 1316, 1317, 13)
def a_m44 : aMt := (yX4_cutLeases, cX4_cutLeases, 2, none, 1, 4, 1914, 1912, 1913, 13)
def a_m45 : aMt := (yX4_asksNow, cX4_asksNow, 2, some .boolean, 0, 4, 1906, 1904, 1905, 13)
def a_m46 : aMt := (yX4_nextAsking, cX4_nextAsking, 2, some .int, 0, 4, 907, 905, 906, 13)
def a_m47 : aMt := (yX4_hopOrStrike, cX4_hopOrStrike, 4, some .int, 3, 4, 1910, 1908, 1909, 13)
def a_m48 : aMt := (yX4_refusal, cX4_refusal, 3, some .int, 3, 4, 1616, 1614, 1615, 13)
def a_m49 : aMt := (yX4_isAllowedOnAny, cX4_isAllowedOnAny, 4, some .boolean, 2, 4, 1620, 1618, 1619, 13)
def a_m50 : aMt := (yX4_findOffer, cX4_findOffer, 7, some .int, 2, 4, 1700, 1622, 1623, 13)
def a_m51 : aMt := (yX4_isFree, cX4_isFree, 5, some .boolean, 1, 4, 1704, 1702, 1703, 13)
def a_m52 : aMt := (yX4_leaseIsAllowed, cX4_leaseIsAllowed, 2, some .boolean, 2, 4, 619, 617, 618, 13)
def a_m53 : aMt := (yX4_isAllowed, cX4_isAllowed, 7, some .boolean, 1, 4, 703, 701, 702, 13)
def a_m54 : aMt := (yX4_barredRadius, cX4_barredRadius, 5, some .int, 0, 4, 715, 713, 714, 13)
def a_m55 : aMt := (yX4_tellTotal, cX4_tellTotal, 2, some .int, 2, 4, 1013, 1011, 1012, 13)
def a_m56 : aMt := (yX5_has, cX5_has, 2, some .boolean, 0, 5, 418, 416, 417, 109)
def a_m57 : aMt := (yX5_tell, cX5_tell, 3, some .int, 0, 5, 804, 802, 803, 109)
def a_m58 : aMt := (yX5_countAwake, cX5_countAwake, 3, some .int, 0, 5, 1021, 1019, 1020, 109)
def a_m59 : aMt := (yX5_copyFrom, cX5_copyFrom, 2, none, 2, 5, 515, 513, 514, 109)
def a_m60 : aMt := (yX6_addStation, cX6_addStation, 5, some .int, 5, 6, 1206, 1204, 1205, 2)
def a_m61 : aMt := (yX6_addEvent, cX6_addEvent, 7, some .int, 5, 6, 1307, 1305, 1306, 2)
def a_m62 : aMt := (yX6_addDevice, cX6_addDevice, 4, some .int, 5, 6, 1405, 1403, 1404, 2)
def a_m63 : aMt := (yX6_set, cX6_set, 3, some .int, 5, 6, 1522, 1520, 1521, 2)
def a_m64 : aMt := (yX6_wake, cX6_wake, 2, some .int, 5, 6, 1500, 1422, 1423, 2)
def a_m65 : aMt := (yX6_sleep, cX6_sleep, 2, some .int, 5, 6, 1509, 1507, 1508, 2)
def a_m66 : aMt := (yX6_cancel, cX6_cancel, 2, some .int, 5, 6, 1513, 1511, 1512, 2)
def a_m67 : aMt := (yX6_lease, cX6_lease, 4, some .int, 5, 6, 1606, 1604, 1605, 2)
def a_m68 : aMt := (yX6_renew, cX6_renew, 3, some .int, 5, 6, 1713, 1711, 1712, 2)
def a_m69 : aMt := (yX6_giveBack, cX6_giveBack, 2, some .int, 5, 6, 1721, 1719, 1720, 2)
def a_m70 : aMt := (yX6_pass, cX6_pass, 2, some .int, 6, 6, 1814, 1812, 1813, 2)
def a_m71 : aMt := (yX1_has, cX1_has, 2, some .boolean, 0, 1, 903, 901, 902, 117)
def a_m72 : aMt := (yX1_has, cX1_has, 2, some .boolean, 0, 1, 903, 901, 902, 117)
def a_m73 : aMt := (yX1_has, cX1_has, 2, some .boolean, 0, 1, 903, 901, 902, 117)
def a_m74 : aMt := (yX1_has, cX1_has, 2, some .boolean, 0, 1, 903, 901, 902, 117)
def a_m75 : aMt := (yX1_has, cX1_has, 2, some .boolean, 0, 1, 903, 901, 902, 117)
def a_m76 : aMt := (yX1_has, cX1_has, 2, some .boolean, 0, 1, 903, 901, 902, 117)
def a_m77 : aMt := (yX1_has, cX1_has, 2, some .boolean, 0, 1, 903, 901, 902, 117)
def a_m78 : aMt := (yX6_station, cX6_station, 3, some .int, 5, 6, 413, 411, 412, 2)
def a_m79 : aMt := (yX6_event, cX6_event, 3, some .int, 2, 6, 808, 806, 807, 2)
def a_m80 : aMt := (yX6_device, cX6_device, 3, some .int, 2, 6, 823, 821, 822, 2)
def a_m81 : aMt := (yX1_has, cX1_has, 2, some .boolean, 0, 1, 903, 901, 902, 117)
def a_m82 : aMt := (yX1_has, cX1_has, 2, some .boolean, 0, 1, 903, 901, 902, 117)
def a_m83 : aMt := (yX1_has, cX1_has, 2, some .boolean, 0, 1, 903, 901, 902, 117)
def a_m84 : aMt := (yX6_leases, cX6_leases, 2, some .int, 1, 6, 920, 918, 919, 2)
def a_m85 : aMt := (yX6_total, cX6_total, 2, some .int, 3, 6, 1007, 1005, 1006, 2)
def a_m86 : aMt := (yX1_has, cX1_has, 2, some .boolean, 0, 1, 903, 901, 902, 117)
def a_m87 : aMt := (yX1_has, cX1_has, 2, some .boolean, 0, 1, 903, 901, 902, 117)
def a_m88 : aMt := (yX1_has, cX1_has, 2, some .boolean, 0, 1, 903, 901, 902, 117)
def a_m89 : aMt := (yX1_has, cX1_has, 2, some .boolean, 0, 1, 903, 901, 902, 117)
def a_m90 : aMt := (yX1_has, cX1_has, 2, some .boolean, 0, 1, 903, 901, 902, 117)
def a_m91 : aMt := (yX6_recorded, cX6_recorded, 2, some .int, 1, 6, 1223, 1221, 1222, 2)
def a_m92 : aMt := (yX6_barredAlone, cX6_barredAlone, 4, some .int, 4, 6, 502, 500, 501, 2)
def a_m93 : aMt := (yX6_isOutside, cX6_isOutside, 3, some .boolean, 0, 6, 422, 421, 0, 2)
def a_m94 : aMt := (yX6_isNoPlace, cX6_isNoPlace, 2, some .boolean, 1, 6, 1219, 1218, 0, 2)
def a_m95 : aMt := (yX6_isWithin, cX6_isWithin, 3, some .boolean, 0, 6, 720, 719, 0, 2)
def a_m96 : aMt := (yX6_copyRow, cX6_copyRow, 2, none, 1, 6, 517, 516, 0, 2)
def a_m97 : aMt := (yL_cell, cL_cell, 2, some .int, 0, 9, 1115, 1114, 0, 317)
def a_m98 : aMt := (yL_low, cL_low, 2, some .int, 0, 9, 1123, 1122, 0, 317)
def a_m99 : aMt := (yL_reach, cL_reach, 1, some .int, 0, 9, 406, 405, 0, 317)
def a_m100 : aMt := (yL_radius, cL_radius, 1, some .int, 0, 9, 403, 402, 0, 317)
def a_m101 : aMt := (yL_near, cL_near, 7, some .boolean, 0, 9, 409, 408, 0, 317)
def a_m102 : aMt := (yL_allowed, cL_allowed, 11, some .boolean, 1, 9, 400, 323, 0, 317)
def a_m103 : aMt := (yL_may, cL_may, 7, some .boolean, 2, 9, 321, 320, 0, 317)
def a_m104 : aMt := (yL_offer, cL_offer, 13, some .int, 3, 9, 1807, 1806, 0, 317)
def a_m105 : aMt := (yL_review, cL_review, 7, none, 3, 9, 1401, 1400, 0, 317)
def a_m106 : aMt := (yL_ends, cL_ends, 4, none, 0, 9, 1417, 1416, 0, 317)
def a_m107 : aMt := (yL_notices, cL_notices, 4, some .int, 0, 9, 1112, 1111, 0, 317)
def a_m108 : aMt := (yL_leases, cL_leases, 4, some .int, 0, 9, 1003, 1002, 0, 317)
def a_m109 : aMt := (yL_hour, cL_hour, 10, some .int, 4, 9, 1810, 1809, 0, 317)
def a_m110 : aMt := (yL_adds, cL_adds, 15, some .boolean, 6, 9, 1202, 1201, 0, 317)
def a_m111 : aMt := (yL_turns, cL_turns, 10, some .boolean, 6, 9, 1420, 1419, 0, 317)
def a_m112 : aMt := (yL_leased, cL_leased, 13, some .boolean, 6, 9, 1804, 1803, 0, 317)
def a_m113 : aMt := (yL_acts, cL_acts, 13, some .boolean, 7, 9, 1119, 1118, 0, 317)
def a_m114 : aMt := (yL_isSo, cL_isSo, 16, some .boolean, 6, 9, 318, 316, 0, 317)
def a_m115 : aMt := (x, cL_law, 11, some .boolean, 8, 9, 0, 0, 0, 0)
def a_mt_0 : List aMt := [a_m0, a_m1, a_m2, a_m3, a_m4, a_m5, a_m6, a_m7, a_m8, a_m9, a_m10, a_m11, a_m12, a_m13, a_m14, a_m15]
def a_mt_1 : List aMt := [a_m16, a_m17, a_m18, a_m19, a_m20, a_m21, a_m22, a_m23, a_m24, a_m25, a_m26, a_m27, a_m28, a_m29, a_m30, a_m31]
def a_mt_2 : List aMt := [a_m32, a_m33, a_m34, a_m35, a_m36, a_m37, a_m38, a_m39, a_m40, a_m41, a_m42, a_m43, a_m44, a_m45, a_m46, a_m47]
def a_mt_3 : List aMt := [a_m48, a_m49, a_m50, a_m51, a_m52, a_m53, a_m54, a_m55, a_m56, a_m57, a_m58, a_m59, a_m60, a_m61, a_m62, a_m63]
def a_mt_4 : List aMt := [a_m64, a_m65, a_m66, a_m67, a_m68, a_m69, a_m70, a_m71, a_m72, a_m73, a_m74, a_m75, a_m76, a_m77, a_m78, a_m79]
def a_mt_5 : List aMt := [a_m80, a_m81, a_m82, a_m83, a_m84, a_m85, a_m86, a_m87, a_m88, a_m89, a_m90, a_m91, a_m92, a_m93, a_m94, a_m95]
def a_mt_6 : List aMt := [a_m96, a_m97, a_m98, a_m99, a_m100, a_m101, a_m102, a_m103, a_m104, a_m105, a_m106, a_m107, a_m108, a_m109, a_m110, a_m111]
def a_mt_7 : List aMt := [a_m112, a_m113, a_m114]
def a_mtl : List aMt := a_mt_0 ++ (a_mt_1 ++ (a_mt_2 ++ (a_mt_3 ++ (a_mt_4 ++ (a_mt_5 ++ (a_mt_6 ++ (a_mt_7)))))))
def a_mt : List aMt := a_mtl ++ [a_m115]
def a_wchs : List (List Cond) := [wsL_law_r1, wsL_law_r2, wsL_law_r3, wsL_law_r4, wsL_law_r5, wsL_law_r6, wsL_law_r7, wsL_law_r8, wsL_law_r9, wsL_law_r10, wsL_law_r11, wsL_law_r12, wsL_law_r13, wsL_law_r14, wsL_law_r15, wsL_law_r16, wsL_law_r17, wsL_law_r18, wsL_law_r19, wsL_law_r20]
def a_w (w : Nat) (c : Cond) : Bool := decide ((a_wchs.getD (w / 100) [])[w % 100]? = some c)
def a_nw (w : Nat) (c : Cond) : Bool := decide (a_nst[w - 5000]? = some c)
/-- how long an instruction is; a switch says it in its row -/
def a_len (ins : Instr) (b : Nat) : Nat := match ins with
  | .tableswitch _ _ _ _ => b
  | .lookupswitch _ _ => b
  | .aload _ | .iload _ | .istore _ | .astore _ | .bipush _ | .newarray _ | .ldc _ => 2
  | .iinc _ _ | .sipush _ | .goto _ | .ifCond _ _ | .if_icmp _ _ | .getfield _ | .putfield _ | .getstatic _ | .invokevirtual _ | .invokestatic _ | .invokespecial _ | .new _ | .anewarray _ => 3
  | _ => 1
def a_np (y : MethodName) : Option Nat := (parseMethodDescriptor y.desc).map (fun d => d.parameters.length)
/-- what is looked at once, by the kernel, of each row of code -/
def a_chk (M : aMt) (pc : Nat) (r : aR) : Bool := match r with
  | (ins, a, b, w) => decide (decode M.2.1 pc = .ok (ins, a_len ins b)) && (match ins with
    | .goto o => decide ((pc : Int) + o = (a : Int))
    | .ifCond _ o => decide ((pc : Int) + o = (a : Int))
    | .if_icmp _ o => decide ((pc : Int) + o = (a : Int))
    | .lookupswitch _ ps => (ps.toList.zip (ps.toList.drop 1)).all (fun (a, next) => a.1 < next.1)
    | .getfield i => (match vwCl[a]? with
      | some (_, T, N) => decide (b < N) && a_w w (.fieldLink M.1.cls i (T b).1 (T b).2.1 (T b).2.2.1)
      | none => false)
    | .putfield i => (match vwCl[a]? with
      | some (_, T, N) => decide (b < N) && a_w w (.fieldLink M.1.cls i (T b).1 (T b).2.1 (T b).2.2.1) && !(T b).2.2.2 && decide (parseFieldDescriptor (T b).2.2.1 = some (if a_bf a b = true then .boolean else .int))
      | none => false)
    | .ldc i => a_w w (.constant M.1.cls i (nI a))
    | .getstatic i => decide (41 ≤ a ∧ a < 46) && (a_w w (.fieldLink M.1.cls i "VacantAir" (a_sn a) "[I") || a_nw w (.fieldLinkNest M.1.cls i "VacantAir" (a_sn a) "[I" "VacantAir"))
    | .invokevirtual i => (match a_mt[a]? with
      | some (y, _, maxL, _, dep, ci, _, w1, w2, _) => a_w w (.methodLink M.1.cls i y) && a_w w1 (.instanceMethod y) && a_w w2 (.selects y.cls y y) && decide (dep + 1 ≤ M.2.2.2.2.1) && decide (a_np y = some (b - 1) ∧ 1 ≤ b ∧ b ≤ maxL) && decide ((vwCl[ci]?).map (fun q => q.1) = some y.cls) && decide (a < 115)
      | none => false)
    | .invokestatic i => decide (1 ≤ M.2.2.2.2.1) && (if a = 1000 then a_w w (.methodLink M.1.cls i Lib.Math.min.name) else if a = 1001 then a_w w (.methodLink M.1.cls i arraycopyName) else (match a_mt[a]? with
      | some (y, _, maxL, _, dep, _, _, w1, _, _) => (a_w w (.methodLink M.1.cls i y) || a_nw w (.methodLinkNest M.1.cls i y "VacantAir")) && a_w w1 (.static y) && decide (dep + 1 ≤ M.2.2.2.2.1) && decide (a_np y = some b ∧ b ≤ maxL) && decide (a < 115)
      | none => false))
    | _ => true)
/-- and of each method that is called -/
def a_mok (M : aMt) : Bool := match M with
  | (y, _, maxL, _, _, _, _, _, _, w3) => a_w w3 (.initialized y.cls) && decide (y.cls ≠ "java/lang/invoke/MethodHandle" ∧ y.cls ≠ "java/lang/invoke/VarHandle") && decide (plainName y.cls = true) && decide (maxL ≤ 21)
/-- X1 has -/
def a_c0 : List (Nat × aR) := []
/-- X1 has -/
def a_c1 : List (Nat × aR) := []
/-- X1 has -/
def a_c2 : List (Nat × aR) := []
/-- X1 has -/
def a_c3 : List (Nat × aR) := []
/-- X1 has -/
def a_c4 : List (Nat × aR) := []
/-- X1 has -/
def a_c5 : List (Nat × aR) := []
/-- X1 has -/
def a_c6 : List (Nat × aR) := []
/-- X1 has -/
def a_c7 : List (Nat × aR) := []
/-- X1 has -/
def a_c8 : List (Nat × aR) := []
/-- X1 has -/
def a_c9 : List (Nat × aR) := [(0, .iload_n 1, 0, 0, 0), (1, .ifCond .lt 15, 16, 0, 0), (4, .iload_n 1, 0, 0, 0), (5, .aload_n 0, 0, 0, 0), (6, .getfield 42, 1, 10, 611), (9, .if_icmp .ge 7, 16, 0, 0), (12, .iconst 1, 0, 0, 0), (13, .goto 4, 17, 0, 0), (16, .iconst 0, 0, 0, 0), (17, .ireturn, 0, 0, 0)]
/-- X1 hasLease -/
def a_c10 : List (Nat × aR) := [(0, .aload_n 0, 0, 0, 0), (1, .getfield 21, 1, 3, 220), (4, .iload_n 1, 0, 0, 0), (5, .iaload, 0, 0, 0), (6, .iconst (-1), 0, 0, 0), (7, .if_icmp .eq 7, 14, 0, 0), (10, .iconst 1, 0, 0, 0), (11, .goto 4, 15, 0, 0), (14, .iconst 0, 0, 0, 0), (15, .ireturn, 0, 0, 0)]
/-- X1 hasNotice -/
def a_c11 : List (Nat × aR) := [(0, .aload_n 0, 0, 0, 0), (1, .getfield 30, 1, 6, 223), (4, .iload_n 1, 0, 0, 0), (5, .iaload, 0, 0, 0), (6, .iconst (-1), 0, 0, 0), (7, .if_icmp .eq 7, 14, 0, 0), (10, .iconst 1, 0, 0, 0), (11, .goto 4, 15, 0, 0), (14, .iconst 0, 0, 0, 0), (15, .ireturn, 0, 0, 0)]
/-- X1 putOn -/
def a_c12 : List (Nat × aR) := [(0, .aload_n 0, 0, 0, 0), (1, .getfield 21, 1, 3, 220), (4, .iload_n 1, 0, 0, 0), (5, .iload_n 2, 0, 0, 0), (6, .iastore, 0, 0, 0), (7, .aload_n 0, 0, 0, 0), (8, .getfield 24, 1, 4, 221), (11, .iload_n 1, 0, 0, 0), (12, .iload_n 3, 0, 0, 0), (13, .iastore, 0, 0, 0), (14, .aload_n 0, 0, 0, 0), (15, .getfield 30, 1, 6, 223), (18, .iload_n 1, 0, 0, 0), (19, .iconst (-1), 0, 0, 0), (20, .iastore, 0, 0, 0), (21, .return_, 0, 0, 0)]
/-- X1 removeLease -/
def a_c13 : List (Nat × aR) := [(0, .aload_n 0, 0, 0, 0), (1, .getfield 21, 1, 3, 220), (4, .iload_n 1, 0, 0, 0), (5, .iconst (-1), 0, 0, 0), (6, .iastore, 0, 0, 0), (7, .aload_n 0, 0, 0, 0), (8, .getfield 30, 1, 6, 223), (11, .iload_n 1, 0, 0, 0), (12, .iconst (-1), 0, 0, 0), (13, .iastore, 0, 0, 0), (14, .return_, 0, 0, 0)]
/-- X1 tell -/
def a_c14_0 : List (Nat × aR) := [(0, .iload_n 2, 0, 0, 0), (1, .tableswitch 166 0 8 #[51, 58, 65, 72, 92, 112, 132, 152, 159], 0, 51, 0), (52, .aload_n 0, 0, 0, 0), (53, .getfield 9, 1, 0, 217), (56, .iload_n 1, 0, 0, 0), (57, .iaload, 0, 0, 0), (58, .ireturn, 0, 0, 0), (59, .aload_n 0, 0, 0, 0), (60, .getfield 15, 1, 1, 218), (63, .iload_n 1, 0, 0, 0), (64, .iaload, 0, 0, 0), (65, .ireturn, 0, 0, 0), (66, .aload_n 0, 0, 0, 0), (67, .getfield 18, 1, 2, 219), (70, .iload_n 1, 0, 0, 0), (71, .iaload, 0, 0, 0), (72, .ireturn, 0, 0, 0), (73, .aload_n 0, 0, 0, 0), (74, .iload_n 1, 0, 0, 0), (75, .invokevirtual 46, 10, 2, 912), (78, .ifCond .eq 12, 90, 0, 0), (81, .aload_n 0, 0, 0, 0), (82, .getfield 21, 1, 3, 220), (85, .iload_n 1, 0, 0, 0), (86, .iaload, 0, 0, 0), (87, .goto 5, 92, 0, 0), (90, .bipush (-6), 0, 0, 0), (92, .ireturn, 0, 0, 0), (93, .aload_n 0, 0, 0, 0), (94, .iload_n 1, 0, 0, 0), (95, .invokevirtual 46, 10, 2, 912), (98, .ifCond .eq 12, 110, 0, 0), (101, .aload_n 0, 0, 0, 0), (102, .getfield 24, 1, 4, 221), (105, .iload_n 1, 0, 0, 0), (106, .iaload, 0, 0, 0), (107, .goto 5, 112, 0, 0), (110, .bipush (-6), 0, 0, 0), (112, .ireturn, 0, 0, 0), (113, .aload_n 0, 0, 0, 0)]
def a_c14_1 : List (Nat × aR) := [(114, .iload_n 1, 0, 0, 0), (115, .invokevirtual 46, 10, 2, 912), (118, .ifCond .eq 12, 130, 0, 0), (121, .aload_n 0, 0, 0, 0), (122, .getfield 27, 1, 5, 222), (125, .iload_n 1, 0, 0, 0), (126, .iaload, 0, 0, 0), (127, .goto 5, 132, 0, 0), (130, .bipush (-6), 0, 0, 0), (132, .ireturn, 0, 0, 0), (133, .aload_n 0, 0, 0, 0), (134, .iload_n 1, 0, 0, 0), (135, .invokevirtual 50, 11, 2, 913), (138, .ifCond .eq 12, 150, 0, 0), (141, .aload_n 0, 0, 0, 0), (142, .getfield 30, 1, 6, 223), (145, .iload_n 1, 0, 0, 0), (146, .iaload, 0, 0, 0), (147, .goto 5, 152, 0, 0), (150, .bipush (-6), 0, 0, 0), (152, .ireturn, 0, 0, 0), (153, .aload_n 0, 0, 0, 0), (154, .getfield 33, 1, 7, 300), (157, .iload_n 1, 0, 0, 0), (158, .iaload, 0, 0, 0), (159, .ireturn, 0, 0, 0), (160, .aload_n 0, 0, 0, 0), (161, .getfield 36, 1, 8, 301), (164, .iload_n 1, 0, 0, 0), (165, .iaload, 0, 0, 0), (166, .ireturn, 0, 0, 0), (167, .aload_n 0, 0, 0, 0), (168, .getfield 39, 1, 9, 302), (171, .iload_n 1, 0, 0, 0), (172, .iaload, 0, 0, 0), (173, .ireturn, 0, 0, 0)]
def a_c14 : List (Nat × aR) := a_c14_0 ++ (a_c14_1)
/-- X1 countLeases -/
def a_c15 : List (Nat × aR) := [(0, .iconst 0, 0, 0, 0), (1, .istore_n 1, 0, 0, 0), (2, .iconst 0, 0, 0, 0), (3, .istore_n 2, 0, 0, 0), (4, .iload_n 2, 0, 0, 0), (5, .aload_n 0, 0, 0, 0), (6, .getfield 42, 1, 10, 611), (9, .if_icmp .ge 20, 29, 0, 0), (12, .aload_n 0, 0, 0, 0), (13, .iload_n 2, 0, 0, 0), (14, .invokevirtual 46, 10, 2, 912), (17, .ifCond .eq 6, 23, 0, 0), (20, .iinc 1 1, 0, 0, 0), (23, .iinc 2 1, 0, 0, 0), (26, .goto (-22), 4, 0, 0), (29, .iload_n 1, 0, 0, 0), (30, .ireturn, 0, 0, 0)]
/-- X1 countOn -/
def a_c16 : List (Nat × aR) := [(0, .iconst 0, 0, 0, 0), (1, .istore_n 2, 0, 0, 0), (2, .iconst 0, 0, 0, 0), (3, .istore_n 3, 0, 0, 0), (4, .iload_n 3, 0, 0, 0), (5, .aload_n 0, 0, 0, 0), (6, .getfield 42, 1, 10, 611), (9, .if_icmp .ge 22, 31, 0, 0), (12, .aload_n 0, 0, 0, 0), (13, .getfield 21, 1, 3, 220), (16, .iload_n 3, 0, 0, 0), (17, .iaload, 0, 0, 0), (18, .iload_n 1, 0, 0, 0), (19, .if_icmp .ne 6, 25, 0, 0), (22, .iinc 2 1, 0, 0, 0), (25, .iinc 3 1, 0, 0, 0), (28, .goto (-24), 4, 0, 0), (31, .iload_n 2, 0, 0, 0), (32, .ireturn, 0, 0, 0)]
/-- X1 countNotices -/
def a_c17 : List (Nat × aR) := [(0, .iconst 0, 0, 0, 0), (1, .istore_n 1, 0, 0, 0), (2, .iconst 0, 0, 0, 0), (3, .istore_n 2, 0, 0, 0), (4, .iload_n 2, 0, 0, 0), (5, .aload_n 0, 0, 0, 0), (6, .getfield 42, 1, 10, 611), (9, .if_icmp .ge 20, 29, 0, 0), (12, .aload_n 0, 0, 0, 0), (13, .iload_n 2, 0, 0, 0), (14, .invokevirtual 50, 11, 2, 913), (17, .ifCond .eq 6, 23, 0, 0), (20, .iinc 1 1, 0, 0, 0), (23, .iinc 2 1, 0, 0, 0), (26, .goto (-22), 4, 0, 0), (29, .iload_n 1, 0, 0, 0), (30, .ireturn, 0, 0, 0)]
/-- X1 sumOf -/
def a_c18 : List (Nat × aR) := [(0, .iconst 0, 0, 0, 0), (1, .istore_n 2, 0, 0, 0), (2, .iconst 0, 0, 0, 0), (3, .istore_n 3, 0, 0, 0), (4, .iload_n 3, 0, 0, 0), (5, .aload_n 0, 0, 0, 0), (6, .getfield 42, 1, 10, 611), (9, .if_icmp .ge 21, 30, 0, 0), (12, .iload_n 3, 0, 0, 0), (13, .aload_n 1, 0, 0, 0), (14, .arraylength, 0, 0, 0), (15, .if_icmp .ge 15, 30, 0, 0), (18, .iload_n 2, 0, 0, 0), (19, .aload_n 1, 0, 0, 0), (20, .iload_n 3, 0, 0, 0), (21, .iaload, 0, 0, 0), (22, .iadd, 0, 0, 0), (23, .istore_n 2, 0, 0, 0), (24, .iinc 3 1, 0, 0, 0), (27, .goto (-23), 4, 0, 0), (30, .iload_n 2, 0, 0, 0), (31, .ireturn, 0, 0, 0)]
/-- X1 has -/
def a_c19 : List (Nat × aR) := []
/-- X1 has -/
def a_c20 : List (Nat × aR) := []
/-- X1 has -/
def a_c21 : List (Nat × aR) := []
/-- X1 copyFrom -/
def a_c22_0 : List (Nat × aR) := [(0, .aload_n 1, 0, 0, 0), (1, .getfield 9, 1, 0, 217), (4, .aload_n 0, 0, 0, 0), (5, .getfield 9, 1, 0, 217), (8, .invokestatic 61, 96, 2, 5002), (11, .aload_n 1, 0, 0, 0), (12, .getfield 15, 1, 1, 218), (15, .aload_n 0, 0, 0, 0), (16, .getfield 15, 1, 1, 218), (19, .invokestatic 61, 96, 2, 5002), (22, .aload_n 1, 0, 0, 0), (23, .getfield 18, 1, 2, 219), (26, .aload_n 0, 0, 0, 0), (27, .getfield 18, 1, 2, 219), (30, .invokestatic 61, 96, 2, 5002), (33, .aload_n 1, 0, 0, 0), (34, .getfield 21, 1, 3, 220), (37, .aload_n 0, 0, 0, 0), (38, .getfield 21, 1, 3, 220), (41, .invokestatic 61, 96, 2, 5002), (44, .aload_n 1, 0, 0, 0), (45, .getfield 24, 1, 4, 221), (48, .aload_n 0, 0, 0, 0), (49, .getfield 24, 1, 4, 221), (52, .invokestatic 61, 96, 2, 5002), (55, .aload_n 1, 0, 0, 0), (56, .getfield 27, 1, 5, 222), (59, .aload_n 0, 0, 0, 0), (60, .getfield 27, 1, 5, 222), (63, .invokestatic 61, 96, 2, 5002), (66, .aload_n 1, 0, 0, 0), (67, .getfield 30, 1, 6, 223), (70, .aload_n 0, 0, 0, 0), (71, .getfield 30, 1, 6, 223), (74, .invokestatic 61, 96, 2, 5002), (77, .aload_n 1, 0, 0, 0), (78, .getfield 33, 1, 7, 300), (81, .aload_n 0, 0, 0, 0), (82, .getfield 33, 1, 7, 300), (85, .invokestatic 61, 96, 2, 5002)]
def a_c22_1 : List (Nat × aR) := [(88, .aload_n 1, 0, 0, 0), (89, .getfield 36, 1, 8, 301), (92, .aload_n 0, 0, 0, 0), (93, .getfield 36, 1, 8, 301), (96, .invokestatic 61, 96, 2, 5002), (99, .aload_n 1, 0, 0, 0), (100, .getfield 39, 1, 9, 302), (103, .aload_n 0, 0, 0, 0), (104, .getfield 39, 1, 9, 302), (107, .invokestatic 61, 96, 2, 5002), (110, .aload_n 0, 0, 0, 0), (111, .aload_n 1, 0, 0, 0), (112, .getfield 42, 1, 10, 611), (115, .putfield 42, 1, 10, 611), (118, .return_, 0, 0, 0)]
def a_c22 : List (Nat × aR) := a_c22_0 ++ (a_c22_1)
/-- X2 has -/
def a_c23 : List (Nat × aR) := [(0, .iload_n 1, 0, 0, 0), (1, .ifCond .lt 15, 16, 0, 0), (4, .iload_n 1, 0, 0, 0), (5, .aload_n 0, 0, 0, 0), (6, .getfield 33, 2, 7, 606), (9, .if_icmp .ge 7, 16, 0, 0), (12, .iconst 1, 0, 0, 0), (13, .goto 4, 17, 0, 0), (16, .iconst 0, 0, 0, 0), (17, .ireturn, 0, 0, 0)]
/-- X2 isOn -/
def a_c24 : List (Nat × aR) := [(0, .aload_n 0, 0, 0, 0), (1, .getfield 30, 2, 6, 213), (4, .iload_n 1, 0, 0, 0), (5, .iaload, 0, 0, 0), (6, .ifCond .ne 27, 33, 0, 0), (9, .aload_n 0, 0, 0, 0), (10, .getfield 24, 2, 4, 211), (13, .iload_n 1, 0, 0, 0), (14, .iaload, 0, 0, 0), (15, .iload_n 2, 0, 0, 0), (16, .if_icmp .gt 17, 33, 0, 0), (19, .iload_n 2, 0, 0, 0), (20, .aload_n 0, 0, 0, 0), (21, .getfield 27, 2, 5, 212), (24, .iload_n 1, 0, 0, 0), (25, .iaload, 0, 0, 0), (26, .if_icmp .ge 7, 33, 0, 0), (29, .iconst 1, 0, 0, 0), (30, .goto 4, 34, 0, 0), (33, .iconst 0, 0, 0, 0), (34, .ireturn, 0, 0, 0)]
/-- X2 tell -/
def a_c25_0 : List (Nat × aR) := [(0, .iload_n 2, 0, 0, 0), (1, .tableswitch 92 0 6 #[43, 50, 57, 64, 71, 78, 85], 0, 43, 0), (44, .aload_n 0, 0, 0, 0), (45, .getfield 9, 2, 0, 207), (48, .iload_n 1, 0, 0, 0), (49, .iaload, 0, 0, 0), (50, .ireturn, 0, 0, 0), (51, .aload_n 0, 0, 0, 0), (52, .getfield 15, 2, 1, 208), (55, .iload_n 1, 0, 0, 0), (56, .iaload, 0, 0, 0), (57, .ireturn, 0, 0, 0), (58, .aload_n 0, 0, 0, 0), (59, .getfield 18, 2, 2, 209), (62, .iload_n 1, 0, 0, 0), (63, .iaload, 0, 0, 0), (64, .ireturn, 0, 0, 0), (65, .aload_n 0, 0, 0, 0), (66, .getfield 21, 2, 3, 210), (69, .iload_n 1, 0, 0, 0), (70, .iaload, 0, 0, 0), (71, .ireturn, 0, 0, 0), (72, .aload_n 0, 0, 0, 0), (73, .getfield 24, 2, 4, 211), (76, .iload_n 1, 0, 0, 0), (77, .iaload, 0, 0, 0), (78, .ireturn, 0, 0, 0), (79, .aload_n 0, 0, 0, 0), (80, .getfield 27, 2, 5, 212), (83, .iload_n 1, 0, 0, 0), (84, .iaload, 0, 0, 0), (85, .ireturn, 0, 0, 0), (86, .aload_n 0, 0, 0, 0), (87, .getfield 30, 2, 6, 213), (90, .iload_n 1, 0, 0, 0), (91, .iaload, 0, 0, 0), (92, .ireturn, 0, 0, 0), (93, .aload_n 0, 0, 0, 0), (94, .iload_n 1, 0, 0, 0), (95, .iload_n 3, 0, 0, 0)]
def a_c25_1 : List (Nat × aR) := [(96, .invokevirtual 37, 24, 3, 819), (99, .ifCond .eq 7, 106, 0, 0), (102, .iconst 1, 0, 0, 0), (103, .goto 4, 107, 0, 0), (106, .iconst 0, 0, 0, 0), (107, .ireturn, 0, 0, 0)]
def a_c25 : List (Nat × aR) := a_c25_0 ++ (a_c25_1)
/-- X2 copyFrom -/
def a_c26 : List (Nat × aR) := [(0, .aload_n 1, 0, 0, 0), (1, .getfield 9, 2, 0, 207), (4, .aload_n 0, 0, 0, 0), (5, .getfield 9, 2, 0, 207), (8, .invokestatic 41, 96, 2, 5001), (11, .aload_n 1, 0, 0, 0), (12, .getfield 15, 2, 1, 208), (15, .aload_n 0, 0, 0, 0), (16, .getfield 15, 2, 1, 208), (19, .invokestatic 41, 96, 2, 5001), (22, .aload_n 1, 0, 0, 0), (23, .getfield 18, 2, 2, 209), (26, .aload_n 0, 0, 0, 0), (27, .getfield 18, 2, 2, 209), (30, .invokestatic 41, 96, 2, 5001), (33, .aload_n 1, 0, 0, 0), (34, .getfield 21, 2, 3, 210), (37, .aload_n 0, 0, 0, 0), (38, .getfield 21, 2, 3, 210), (41, .invokestatic 41, 96, 2, 5001), (44, .aload_n 1, 0, 0, 0), (45, .getfield 24, 2, 4, 211), (48, .aload_n 0, 0, 0, 0), (49, .getfield 24, 2, 4, 211), (52, .invokestatic 41, 96, 2, 5001), (55, .aload_n 1, 0, 0, 0), (56, .getfield 27, 2, 5, 212), (59, .aload_n 0, 0, 0, 0), (60, .getfield 27, 2, 5, 212), (63, .invokestatic 41, 96, 2, 5001), (66, .aload_n 1, 0, 0, 0), (67, .getfield 30, 2, 6, 213), (70, .aload_n 0, 0, 0, 0), (71, .getfield 30, 2, 6, 213), (74, .invokestatic 41, 96, 2, 5001), (77, .aload_n 0, 0, 0, 0), (78, .aload_n 1, 0, 0, 0), (79, .getfield 33, 2, 7, 606), (82, .putfield 33, 2, 7, 606), (85, .return_, 0, 0, 0)]
/-- X3 note -/
def a_c27 : List (Nat × aR) := [(0, .aload_n 0, 0, 0, 0), (1, .getfield 11, 3, 0, 308), (4, .aload_n 0, 0, 0, 0), (5, .getfield 18, 3, 1, 1211), (8, .aload_n 0, 0, 0, 0), (9, .getfield 22, 3, 2, 1212), (12, .iadd, 0, 0, 0), (13, .bipush 6, 0, 0, 0), (15, .irem, 0, 0, 0), (16, .aaload, 0, 0, 0), (17, .aload_n 1, 0, 0, 0), (18, .invokevirtual 25, 30, 2, 1213), (21, .return_, 0, 0, 0)]
/-- X3 keepNoted -/
def a_c28 : List (Nat × aR) := [(0, .aload_n 0, 0, 0, 0), (1, .getfield 22, 3, 2, 1212), (4, .iconst 5, 0, 0, 0), (5, .if_icmp .ge 16, 21, 0, 0), (8, .aload_n 0, 0, 0, 0), (9, .dup, 0, 0, 0), (10, .getfield 22, 3, 2, 1212), (13, .iconst 1, 0, 0, 0), (14, .iadd, 0, 0, 0), (15, .putfield 22, 3, 2, 1212), (18, .goto 16, 34, 0, 0), (21, .aload_n 0, 0, 0, 0), (22, .aload_n 0, 0, 0, 0), (23, .getfield 18, 3, 1, 1211), (26, .iconst 1, 0, 0, 0), (27, .iadd, 0, 0, 0), (28, .bipush 6, 0, 0, 0), (30, .irem, 0, 0, 0), (31, .putfield 18, 3, 1, 1211), (34, .return_, 0, 0, 0)]
/-- X1 has -/
def a_c29 : List (Nat × aR) := []
/-- X4 copyFrom -/
def a_c30 : List (Nat × aR) := [(0, .aload_n 0, 0, 0, 0), (1, .getfield 12, 4, 0, 110), (4, .aload_n 1, 0, 0, 0), (5, .getfield 12, 4, 0, 110), (8, .invokevirtual 39, 59, 2, 512), (11, .aload_n 0, 0, 0, 0), (12, .getfield 21, 4, 1, 114), (15, .aload_n 1, 0, 0, 0), (16, .getfield 21, 4, 1, 114), (19, .invokevirtual 43, 26, 2, 602), (22, .aload_n 0, 0, 0, 0), (23, .getfield 28, 4, 2, 118), (26, .aload_n 1, 0, 0, 0), (27, .getfield 28, 4, 2, 118), (30, .invokevirtual 46, 22, 2, 607), (33, .aload_n 1, 0, 0, 0), (34, .getfield 32, 4, 3, 119), (37, .aload_n 0, 0, 0, 0), (38, .getfield 32, 4, 3, 119), (41, .invokestatic 49, 96, 2, 5003), (44, .aload_n 0, 0, 0, 0), (45, .aload_n 1, 0, 0, 0), (46, .getfield 53, 4, 4, 510), (49, .putfield 53, 4, 4, 510), (52, .aload_n 0, 0, 0, 0), (53, .aload_n 1, 0, 0, 0), (54, .getfield 57, 4, 5, 511), (57, .putfield 57, 4, 5, 511), (60, .return_, 0, 0, 0)]
/-- X4 putStation -/
def a_c31_0 : List (Nat × aR) := [(0, .iload_n 1, 0, 0, 0), (1, .iload_n 2, 0, 0, 0), (2, .invokestatic 60, 94, 2, 5005), (5, .ifCond .ne 23, 28, 0, 0), (8, .iload_n 3, 0, 0, 0), (9, .iconst 0, 0, 0, 0), (10, .bipush 7, 0, 0, 0), (12, .invokestatic 64, 93, 3, 5006), (15, .ifCond .ne 13, 28, 0, 0), (18, .iload 4, 0, 0, 0), (20, .iconst 0, 0, 0, 0), (21, .iconst 4, 0, 0, 0), (22, .invokestatic 64, 93, 3, 5006), (25, .ifCond .eq 6, 31, 0, 0), (28, .bipush (-2), 0, 0, 0), (30, .ireturn, 0, 0, 0), (31, .aload_n 0, 0, 0, 0), (32, .getfield 12, 4, 0, 110), (35, .getfield 68, 5, 5, 704), (38, .bipush 8, 0, 0, 0), (40, .if_icmp .lt 6, 46, 0, 0), (43, .bipush (-4), 0, 0, 0), (45, .ireturn, 0, 0, 0), (46, .aload_n 0, 0, 0, 0), (47, .getfield 12, 4, 0, 110), (50, .getfield 68, 5, 5, 704), (53, .istore 5, 0, 0, 0), (55, .aload_n 0, 0, 0, 0), (56, .getfield 12, 4, 0, 110), (59, .getfield 71, 5, 0, 705), (62, .iload 5, 0, 0, 0), (64, .iload_n 1, 0, 0, 0), (65, .iastore, 0, 0, 0), (66, .aload_n 0, 0, 0, 0), (67, .getfield 12, 4, 0, 110), (70, .getfield 74, 5, 1, 706), (73, .iload 5, 0, 0, 0), (75, .iload_n 2, 0, 0, 0), (76, .iastore, 0, 0, 0), (77, .aload_n 0, 0, 0, 0)]
def a_c31_1 : List (Nat × aR) := [(78, .getfield 12, 4, 0, 110), (81, .getfield 77, 5, 2, 718), (84, .iload 5, 0, 0, 0), (86, .iload_n 3, 0, 0, 0), (87, .iastore, 0, 0, 0), (88, .aload_n 0, 0, 0, 0), (89, .getfield 12, 4, 0, 110), (92, .getfield 80, 5, 3, 717), (95, .iload 5, 0, 0, 0), (97, .iload 4, 0, 0, 0), (99, .iastore, 0, 0, 0), (100, .aload_n 0, 0, 0, 0), (101, .getfield 12, 4, 0, 110), (104, .getfield 83, 5, 4, 716), (107, .iload 5, 0, 0, 0), (109, .iconst 0, 0, 0, 0), (110, .iastore, 0, 0, 0), (111, .aload_n 0, 0, 0, 0), (112, .getfield 12, 4, 0, 110), (115, .dup, 0, 0, 0), (116, .getfield 68, 5, 5, 704), (119, .iconst 1, 0, 0, 0), (120, .iadd, 0, 0, 0), (121, .putfield 68, 5, 5, 704), (124, .iload 5, 0, 0, 0), (126, .ireturn, 0, 0, 0)]
def a_c31 : List (Nat × aR) := a_c31_0 ++ (a_c31_1)
/-- X4 putEvent -/
def a_c32_0 : List (Nat × aR) := [(0, .iload_n 1, 0, 0, 0), (1, .iload_n 2, 0, 0, 0), (2, .invokestatic 60, 94, 2, 5005), (5, .ifCond .ne 54, 59, 0, 0), (8, .iload_n 3, 0, 0, 0), (9, .iconst 1, 0, 0, 0), (10, .bipush 30, 0, 0, 0), (12, .invokestatic 64, 93, 3, 5006), (15, .ifCond .ne 44, 59, 0, 0), (18, .iload 4, 0, 0, 0), (20, .iconst 0, 0, 0, 0), (21, .bipush 7, 0, 0, 0), (23, .invokestatic 64, 93, 3, 5006), (26, .ifCond .ne 33, 59, 0, 0), (29, .iload 5, 0, 0, 0), (31, .aload_n 0, 0, 0, 0), (32, .getfield 53, 4, 4, 510), (35, .sipush 9998, 0, 0, 0), (38, .invokestatic 64, 93, 3, 5006), (41, .ifCond .ne 18, 59, 0, 0), (44, .iload 6, 0, 0, 0), (46, .iload 5, 0, 0, 0), (48, .iconst 1, 0, 0, 0), (49, .iadd, 0, 0, 0), (50, .sipush 9999, 0, 0, 0), (53, .invokestatic 64, 93, 3, 5006), (56, .ifCond .eq 6, 62, 0, 0), (59, .bipush (-2), 0, 0, 0), (61, .ireturn, 0, 0, 0), (62, .aload_n 0, 0, 0, 0), (63, .getfield 21, 4, 1, 114), (66, .getfield 86, 2, 7, 707), (69, .bipush 8, 0, 0, 0), (71, .if_icmp .lt 6, 77, 0, 0), (74, .bipush (-4), 0, 0, 0), (76, .ireturn, 0, 0, 0), (77, .aload_n 0, 0, 0, 0), (78, .getfield 21, 4, 1, 114), (81, .getfield 86, 2, 7, 707), (84, .istore 7, 0, 0, 0)]
def a_c32_1 : List (Nat × aR) := [(86, .aload_n 0, 0, 0, 0), (87, .getfield 21, 4, 1, 114), (90, .getfield 87, 2, 0, 709), (93, .iload 7, 0, 0, 0), (95, .iload_n 1, 0, 0, 0), (96, .iastore, 0, 0, 0), (97, .aload_n 0, 0, 0, 0), (98, .getfield 21, 4, 1, 114), (101, .getfield 88, 2, 1, 710), (104, .iload 7, 0, 0, 0), (106, .iload_n 2, 0, 0, 0), (107, .iastore, 0, 0, 0), (108, .aload_n 0, 0, 0, 0), (109, .getfield 21, 4, 1, 114), (112, .getfield 89, 2, 2, 711), (115, .iload 7, 0, 0, 0), (117, .iload_n 3, 0, 0, 0), (118, .iastore, 0, 0, 0), (119, .aload_n 0, 0, 0, 0), (120, .getfield 21, 4, 1, 114), (123, .getfield 92, 2, 3, 708), (126, .iload 7, 0, 0, 0), (128, .iload 4, 0, 0, 0), (130, .iastore, 0, 0, 0), (131, .aload_n 0, 0, 0, 0), (132, .getfield 21, 4, 1, 114), (135, .getfield 93, 2, 4, 1312), (138, .iload 7, 0, 0, 0), (140, .iload 5, 0, 0, 0), (142, .iastore, 0, 0, 0), (143, .aload_n 0, 0, 0, 0), (144, .getfield 21, 4, 1, 114), (147, .getfield 96, 2, 5, 1313), (150, .iload 7, 0, 0, 0), (152, .iload 6, 0, 0, 0), (154, .iastore, 0, 0, 0), (155, .aload_n 0, 0, 0, 0), (156, .getfield 21, 4, 1, 114), (159, .getfield 99, 2, 6, 1314), (162, .iload 7, 0, 0, 0)]
def a_c32_2 : List (Nat × aR) := [(164, .iconst 0, 0, 0, 0), (165, .iastore, 0, 0, 0), (166, .aload_n 0, 0, 0, 0), (167, .getfield 21, 4, 1, 114), (170, .dup, 0, 0, 0), (171, .getfield 86, 2, 7, 707), (174, .iconst 1, 0, 0, 0), (175, .iadd, 0, 0, 0), (176, .putfield 86, 2, 7, 707), (179, .aload_n 0, 0, 0, 0), (180, .invokevirtual 102, 43, 1, 1315), (183, .iload 7, 0, 0, 0), (185, .ireturn, 0, 0, 0)]
def a_c32 : List (Nat × aR) := a_c32_0 ++ (a_c32_1 ++ (a_c32_2))
/-- X4 putDevice -/
def a_c33_0 : List (Nat × aR) := [(0, .iload_n 1, 0, 0, 0), (1, .iload_n 2, 0, 0, 0), (2, .invokestatic 60, 94, 2, 5005), (5, .ifCond .ne 12, 17, 0, 0), (8, .iload_n 3, 0, 0, 0), (9, .iconst 0, 0, 0, 0), (10, .iconst 3, 0, 0, 0), (11, .invokestatic 64, 93, 3, 5006), (14, .ifCond .eq 6, 20, 0, 0), (17, .bipush (-2), 0, 0, 0), (19, .ireturn, 0, 0, 0), (20, .aload_n 0, 0, 0, 0), (21, .getfield 28, 4, 2, 118), (24, .getfield 105, 1, 10, 1014), (27, .bipush 16, 0, 0, 0), (29, .if_icmp .lt 6, 35, 0, 0), (32, .bipush (-4), 0, 0, 0), (34, .ireturn, 0, 0, 0), (35, .aload_n 0, 0, 0, 0), (36, .getfield 28, 4, 2, 118), (39, .getfield 105, 1, 10, 1014), (42, .istore 4, 0, 0, 0), (44, .aload_n 0, 0, 0, 0), (45, .getfield 28, 4, 2, 118), (48, .getfield 106, 1, 0, 622), (51, .iload 4, 0, 0, 0), (53, .iload_n 1, 0, 0, 0), (54, .iastore, 0, 0, 0), (55, .aload_n 0, 0, 0, 0), (56, .getfield 28, 4, 2, 118), (59, .getfield 107, 1, 1, 623), (62, .iload 4, 0, 0, 0), (64, .iload_n 2, 0, 0, 0), (65, .iastore, 0, 0, 0), (66, .aload_n 0, 0, 0, 0), (67, .getfield 28, 4, 2, 118), (70, .getfield 108, 1, 2, 1410), (73, .iload 4, 0, 0, 0), (75, .iload_n 3, 0, 0, 0), (76, .iastore, 0, 0, 0)]
def a_c33_1 : List (Nat × aR) := [(77, .aload_n 0, 0, 0, 0), (78, .getfield 28, 4, 2, 118), (81, .getfield 111, 1, 7, 1015), (84, .iload 4, 0, 0, 0), (86, .iconst 0, 0, 0, 0), (87, .iastore, 0, 0, 0), (88, .aload_n 0, 0, 0, 0), (89, .getfield 28, 4, 2, 118), (92, .getfield 114, 1, 8, 1016), (95, .iload 4, 0, 0, 0), (97, .iconst 0, 0, 0, 0), (98, .iastore, 0, 0, 0), (99, .aload_n 0, 0, 0, 0), (100, .getfield 28, 4, 2, 118), (103, .getfield 117, 1, 9, 1017), (106, .iload 4, 0, 0, 0), (108, .iconst 0, 0, 0, 0), (109, .iastore, 0, 0, 0), (110, .aload_n 0, 0, 0, 0), (111, .getfield 28, 4, 2, 118), (114, .iload 4, 0, 0, 0), (116, .invokevirtual 120, 13, 2, 1411), (119, .aload_n 0, 0, 0, 0), (120, .getfield 28, 4, 2, 118), (123, .dup, 0, 0, 0), (124, .getfield 105, 1, 10, 1014), (127, .iconst 1, 0, 0, 0), (128, .iadd, 0, 0, 0), (129, .putfield 105, 1, 10, 1014), (132, .iload 4, 0, 0, 0), (134, .ireturn, 0, 0, 0)]
def a_c33 : List (Nat × aR) := a_c33_0 ++ (a_c33_1)
/-- X4 change -/
def a_c34 : List (Nat × aR) := [(0, .iload_n 1, 0, 0, 0), (1, .iconst 0, 0, 0, 0), (2, .iconst 2, 0, 0, 0), (3, .invokestatic 64, 93, 3, 5006), (6, .ifCond .eq 5, 11, 0, 0), (9, .iconst (-1), 0, 0, 0), (10, .ireturn, 0, 0, 0), (11, .iload_n 2, 0, 0, 0), (12, .getstatic 124, 44, 0, 5011), (15, .iload_n 1, 0, 0, 0), (16, .iaload, 0, 0, 0), (17, .getstatic 127, 45, 0, 5012), (20, .iload_n 1, 0, 0, 0), (21, .iaload, 0, 0, 0), (22, .invokestatic 64, 93, 3, 5006), (25, .ifCond .eq 6, 31, 0, 0), (28, .bipush (-2), 0, 0, 0), (30, .ireturn, 0, 0, 0), (31, .aload_n 0, 0, 0, 0), (32, .getfield 32, 4, 3, 119), (35, .iload_n 1, 0, 0, 0), (36, .iaload, 0, 0, 0), (37, .istore_n 3, 0, 0, 0), (38, .aload_n 0, 0, 0, 0), (39, .getfield 32, 4, 3, 119), (42, .iload_n 1, 0, 0, 0), (43, .iload_n 2, 0, 0, 0), (44, .iastore, 0, 0, 0), (45, .aload_n 0, 0, 0, 0), (46, .invokevirtual 102, 43, 1, 1315), (49, .iload_n 3, 0, 0, 0), (50, .ireturn, 0, 0, 0)]
/-- X4 turnStation -/
def a_c35 : List (Nat × aR) := [(0, .aload_n 0, 0, 0, 0), (1, .getfield 12, 4, 0, 110), (4, .iload_n 1, 0, 0, 0), (5, .invokevirtual 130, 56, 2, 1505), (8, .ifCond .ne 5, 13, 0, 0), (11, .iconst (-1), 0, 0, 0), (12, .ireturn, 0, 0, 0), (13, .aload_n 0, 0, 0, 0), (14, .getfield 12, 4, 0, 110), (17, .getfield 83, 5, 4, 716), (20, .iload_n 1, 0, 0, 0), (21, .iaload, 0, 0, 0), (22, .iload_n 2, 0, 0, 0), (23, .if_icmp .ne 6, 29, 0, 0), (26, .bipush (-3), 0, 0, 0), (28, .ireturn, 0, 0, 0), (29, .aload_n 0, 0, 0, 0), (30, .getfield 12, 4, 0, 110), (33, .getfield 83, 5, 4, 716), (36, .iload_n 1, 0, 0, 0), (37, .iload_n 2, 0, 0, 0), (38, .iastore, 0, 0, 0), (39, .aload_n 0, 0, 0, 0), (40, .invokevirtual 102, 43, 1, 1315), (43, .aload_n 0, 0, 0, 0), (44, .getfield 28, 4, 2, 118), (47, .invokevirtual 134, 17, 1, 1102), (50, .ireturn, 0, 0, 0)]
/-- X4 callOff -/
def a_c36 : List (Nat × aR) := [(0, .aload_n 0, 0, 0, 0), (1, .getfield 21, 4, 1, 114), (4, .iload_n 1, 0, 0, 0), (5, .invokevirtual 138, 23, 2, 1518), (8, .ifCond .ne 5, 13, 0, 0), (11, .iconst (-1), 0, 0, 0), (12, .ireturn, 0, 0, 0), (13, .aload_n 0, 0, 0, 0), (14, .getfield 21, 4, 1, 114), (17, .getfield 99, 2, 6, 1314), (20, .iload_n 1, 0, 0, 0), (21, .iaload, 0, 0, 0), (22, .iconst 1, 0, 0, 0), (23, .if_icmp .eq 19, 42, 0, 0), (26, .aload_n 0, 0, 0, 0), (27, .getfield 21, 4, 1, 114), (30, .getfield 96, 2, 5, 1313), (33, .iload_n 1, 0, 0, 0), (34, .iaload, 0, 0, 0), (35, .aload_n 0, 0, 0, 0), (36, .getfield 53, 4, 4, 510), (39, .if_icmp .gt 6, 45, 0, 0), (42, .bipush (-3), 0, 0, 0), (44, .ireturn, 0, 0, 0), (45, .aload_n 0, 0, 0, 0), (46, .getfield 21, 4, 1, 114), (49, .getfield 99, 2, 6, 1314), (52, .iload_n 1, 0, 0, 0), (53, .iconst 1, 0, 0, 0), (54, .iastore, 0, 0, 0), (55, .aload_n 0, 0, 0, 0), (56, .invokevirtual 102, 43, 1, 1315), (59, .aload_n 0, 0, 0, 0), (60, .getfield 28, 4, 2, 118), (63, .invokevirtual 134, 17, 1, 1102), (66, .ireturn, 0, 0, 0)]
/-- X4 makeLease -/
def a_c37_0 : List (Nat × aR) := [(0, .aload_n 0, 0, 0, 0), (1, .getfield 28, 4, 2, 118), (4, .iload_n 1, 0, 0, 0), (5, .invokevirtual 139, 9, 2, 1612), (8, .ifCond .ne 5, 13, 0, 0), (11, .iconst (-1), 0, 0, 0), (12, .ireturn, 0, 0, 0), (13, .iload_n 2, 0, 0, 0), (14, .iconst 0, 0, 0, 0), (15, .iconst 3, 0, 0, 0), (16, .invokestatic 64, 93, 3, 5006), (19, .ifCond .ne 13, 32, 0, 0), (22, .iload_n 3, 0, 0, 0), (23, .iconst 1, 0, 0, 0), (24, .bipush 99, 0, 0, 0), (26, .invokestatic 64, 93, 3, 5006), (29, .ifCond .eq 6, 35, 0, 0), (32, .bipush (-2), 0, 0, 0), (34, .ireturn, 0, 0, 0), (35, .aload_n 0, 0, 0, 0), (36, .aload_n 0, 0, 0, 0), (37, .iload_n 1, 0, 0, 0), (38, .iload_n 2, 0, 0, 0), (39, .invokevirtual 140, 48, 3, 1613), (42, .putfield 57, 4, 5, 511), (45, .aload_n 0, 0, 0, 0), (46, .getfield 57, 4, 5, 511), (49, .ifCond .eq 6, 55, 0, 0), (52, .bipush (-5), 0, 0, 0), (54, .ireturn, 0, 0, 0), (55, .aload_n 0, 0, 0, 0), (56, .getfield 28, 4, 2, 118), (59, .iload_n 1, 0, 0, 0), (60, .aload_n 0, 0, 0, 0), (61, .iload_n 1, 0, 0, 0), (62, .iload_n 2, 0, 0, 0), (63, .invokevirtual 144, 50, 3, 1621), (66, .iload_n 2, 0, 0, 0), (67, .invokevirtual 147, 12, 4, 1706), (70, .aload_n 0, 0, 0, 0)]
def a_c37_1 : List (Nat × aR) := [(71, .getfield 28, 4, 2, 118), (74, .getfield 151, 1, 5, 1611), (77, .iload_n 1, 0, 0, 0), (78, .aload_n 0, 0, 0, 0), (79, .getfield 53, 4, 4, 510), (82, .iload_n 3, 0, 0, 0), (83, .iadd, 0, 0, 0), (84, .iastore, 0, 0, 0), (85, .aload_n 0, 0, 0, 0), (86, .getfield 28, 4, 2, 118), (89, .getfield 154, 1, 3, 620), (92, .iload_n 1, 0, 0, 0), (93, .iaload, 0, 0, 0), (94, .ireturn, 0, 0, 0)]
def a_c37 : List (Nat × aR) := a_c37_0 ++ (a_c37_1)
/-- X4 prolongLease -/
def a_c38_0 : List (Nat × aR) := [(0, .aload_n 0, 0, 0, 0), (1, .getfield 28, 4, 2, 118), (4, .iload_n 1, 0, 0, 0), (5, .invokevirtual 139, 9, 2, 1612), (8, .ifCond .ne 5, 13, 0, 0), (11, .iconst (-1), 0, 0, 0), (12, .ireturn, 0, 0, 0), (13, .iload_n 2, 0, 0, 0), (14, .iconst 1, 0, 0, 0), (15, .bipush 99, 0, 0, 0), (17, .invokestatic 64, 93, 3, 5006), (20, .ifCond .eq 6, 26, 0, 0), (23, .bipush (-2), 0, 0, 0), (25, .ireturn, 0, 0, 0), (26, .aload_n 0, 0, 0, 0), (27, .getfield 28, 4, 2, 118), (30, .iload_n 1, 0, 0, 0), (31, .invokevirtual 155, 10, 2, 1320), (34, .ifCond .ne 6, 40, 0, 0), (37, .bipush (-3), 0, 0, 0), (39, .ireturn, 0, 0, 0), (40, .aload_n 0, 0, 0, 0), (41, .getfield 28, 4, 2, 118), (44, .iload_n 1, 0, 0, 0), (45, .invokevirtual 158, 11, 2, 1322), (48, .ifCond .eq 11, 59, 0, 0), (51, .aload_n 0, 0, 0, 0), (52, .iconst 5, 0, 0, 0), (53, .putfield 57, 4, 5, 511), (56, .bipush (-5), 0, 0, 0), (58, .ireturn, 0, 0, 0), (59, .aload_n 0, 0, 0, 0), (60, .iconst 0, 0, 0, 0), (61, .putfield 57, 4, 5, 511), (64, .aload_n 0, 0, 0, 0), (65, .getfield 28, 4, 2, 118), (68, .getfield 151, 1, 5, 1611), (71, .iload_n 1, 0, 0, 0), (72, .aload_n 0, 0, 0, 0), (73, .getfield 53, 4, 4, 510)]
def a_c38_1 : List (Nat × aR) := [(76, .iload_n 2, 0, 0, 0), (77, .iadd, 0, 0, 0), (78, .iastore, 0, 0, 0), (79, .aload_n 0, 0, 0, 0), (80, .getfield 28, 4, 2, 118), (83, .getfield 151, 1, 5, 1611), (86, .iload_n 1, 0, 0, 0), (87, .iaload, 0, 0, 0), (88, .ireturn, 0, 0, 0)]
def a_c38 : List (Nat × aR) := a_c38_0 ++ (a_c38_1)
/-- X4 dropLease -/
def a_c39 : List (Nat × aR) := [(0, .aload_n 0, 0, 0, 0), (1, .getfield 28, 4, 2, 118), (4, .iload_n 1, 0, 0, 0), (5, .invokevirtual 139, 9, 2, 1612), (8, .ifCond .ne 5, 13, 0, 0), (11, .iconst (-1), 0, 0, 0), (12, .ireturn, 0, 0, 0), (13, .aload_n 0, 0, 0, 0), (14, .getfield 28, 4, 2, 118), (17, .iload_n 1, 0, 0, 0), (18, .invokevirtual 155, 10, 2, 1320), (21, .ifCond .ne 6, 27, 0, 0), (24, .bipush (-3), 0, 0, 0), (26, .ireturn, 0, 0, 0), (27, .aload_n 0, 0, 0, 0), (28, .getfield 28, 4, 2, 118), (31, .iload_n 1, 0, 0, 0), (32, .invokevirtual 120, 13, 2, 1411), (35, .aload_n 0, 0, 0, 0), (36, .getfield 28, 4, 2, 118), (39, .invokevirtual 161, 15, 1, 1022), (42, .ireturn, 0, 0, 0)]
/-- X4 passHours -/
def a_c40 : List (Nat × aR) := [(0, .iload_n 1, 0, 0, 0), (1, .iconst 1, 0, 0, 0), (2, .bipush 99, 0, 0, 0), (4, .invokestatic 64, 93, 3, 5006), (7, .ifCond .eq 6, 13, 0, 0), (10, .bipush (-2), 0, 0, 0), (12, .ireturn, 0, 0, 0), (13, .aload_n 0, 0, 0, 0), (14, .getfield 53, 4, 4, 510), (17, .iload_n 1, 0, 0, 0), (18, .iadd, 0, 0, 0), (19, .sipush 9999, 0, 0, 0), (22, .if_icmp .le 6, 28, 0, 0), (25, .bipush (-3), 0, 0, 0), (27, .ireturn, 0, 0, 0), (28, .iconst 0, 0, 0, 0), (29, .istore_n 2, 0, 0, 0), (30, .iconst 0, 0, 0, 0), (31, .istore_n 3, 0, 0, 0), (32, .iload_n 3, 0, 0, 0), (33, .iload_n 1, 0, 0, 0), (34, .if_icmp .ge 16, 50, 0, 0), (37, .iload_n 2, 0, 0, 0), (38, .aload_n 0, 0, 0, 0), (39, .invokevirtual 164, 41, 1, 1819), (42, .iadd, 0, 0, 0), (43, .istore_n 2, 0, 0, 0), (44, .iinc 3 1, 0, 0, 0), (47, .goto (-15), 32, 0, 0), (50, .iload_n 2, 0, 0, 0), (51, .ireturn, 0, 0, 0)]
/-- X4 passOneHour -/
def a_c41 : List (Nat × aR) := [(0, .aload_n 0, 0, 0, 0), (1, .dup, 0, 0, 0), (2, .getfield 53, 4, 4, 510), (5, .iconst 1, 0, 0, 0), (6, .iadd, 0, 0, 0), (7, .putfield 53, 4, 4, 510), (10, .aload_n 0, 0, 0, 0), (11, .invokevirtual 167, 42, 1, 1823), (14, .aload_n 0, 0, 0, 0), (15, .invokevirtual 102, 43, 1, 1315), (18, .iconst 0, 0, 0, 0), (19, .istore_n 1, 0, 0, 0), (20, .iconst 0, 0, 0, 0), (21, .istore_n 2, 0, 0, 0), (22, .iload_n 2, 0, 0, 0), (23, .aload_n 0, 0, 0, 0), (24, .getfield 28, 4, 2, 118), (27, .getfield 105, 1, 10, 1014), (30, .if_icmp .ge 36, 66, 0, 0), (33, .aload_n 0, 0, 0, 0), (34, .getfield 28, 4, 2, 118), (37, .iload_n 2, 0, 0, 0), (38, .invokevirtual 158, 11, 2, 1322), (41, .ifCond .eq 19, 60, 0, 0), (44, .aload_n 0, 0, 0, 0), (45, .iload_n 2, 0, 0, 0), (46, .invokevirtual 170, 45, 2, 1903), (49, .ifCond .eq 11, 60, 0, 0), (52, .iload_n 1, 0, 0, 0), (53, .aload_n 0, 0, 0, 0), (54, .iload_n 2, 0, 0, 0), (55, .invokevirtual 173, 47, 2, 1907), (58, .iadd, 0, 0, 0), (59, .istore_n 1, 0, 0, 0), (60, .iinc 2 1, 0, 0, 0), (63, .goto (-41), 22, 0, 0), (66, .aload_n 0, 0, 0, 0), (67, .invokevirtual 177, 44, 1, 1911), (70, .iload_n 1, 0, 0, 0), (71, .ireturn, 0, 0, 0)]
/-- X4 endLeases -/
def a_c42 : List (Nat × aR) := [(0, .iconst 0, 0, 0, 0), (1, .istore_n 1, 0, 0, 0), (2, .iload_n 1, 0, 0, 0), (3, .aload_n 0, 0, 0, 0), (4, .getfield 28, 4, 2, 118), (7, .getfield 105, 1, 10, 1014), (10, .if_icmp .ge 44, 54, 0, 0), (13, .aload_n 0, 0, 0, 0), (14, .getfield 28, 4, 2, 118), (17, .iload_n 1, 0, 0, 0), (18, .invokevirtual 155, 10, 2, 1320), (21, .ifCond .eq 27, 48, 0, 0), (24, .aload_n 0, 0, 0, 0), (25, .getfield 28, 4, 2, 118), (28, .getfield 151, 1, 5, 1611), (31, .iload_n 1, 0, 0, 0), (32, .iaload, 0, 0, 0), (33, .aload_n 0, 0, 0, 0), (34, .getfield 53, 4, 4, 510), (37, .if_icmp .gt 11, 48, 0, 0), (40, .aload_n 0, 0, 0, 0), (41, .getfield 28, 4, 2, 118), (44, .iload_n 1, 0, 0, 0), (45, .invokevirtual 120, 13, 2, 1411), (48, .iinc 1 1, 0, 0, 0), (51, .goto (-49), 2, 0, 0), (54, .return_, 0, 0, 0)]
/-- X4 review -/
def a_c43 : List (Nat × aR) := [(0, .iconst 0, 0, 0, 0), (1, .istore_n 1, 0, 0, 0), (2, .iload_n 1, 0, 0, 0), (3, .aload_n 0, 0, 0, 0), (4, .getfield 28, 4, 2, 118), (7, .getfield 105, 1, 10, 1014), (10, .if_icmp .ge 65, 75, 0, 0), (13, .aload_n 0, 0, 0, 0), (14, .getfield 28, 4, 2, 118), (17, .iload_n 1, 0, 0, 0), (18, .invokevirtual 155, 10, 2, 1320), (21, .ifCond .eq 48, 69, 0, 0), (24, .aload_n 0, 0, 0, 0), (25, .iload_n 1, 0, 0, 0), (26, .invokevirtual 180, 52, 2, 1321), (29, .ifCond .eq 16, 45, 0, 0), (32, .aload_n 0, 0, 0, 0), (33, .getfield 28, 4, 2, 118), (36, .getfield 183, 1, 6, 1319), (39, .iload_n 1, 0, 0, 0), (40, .iconst (-1), 0, 0, 0), (41, .iastore, 0, 0, 0), (42, .goto 27, 69, 0, 0), (45, .aload_n 0, 0, 0, 0), (46, .getfield 28, 4, 2, 118), (49, .iload_n 1, 0, 0, 0), (50, .invokevirtual 158, 11, 2, 1322), (53, .ifCond .ne 16, 69, 0, 0), (56, .aload_n 0, 0, 0, 0), (57, .getfield 28, 4, 2, 118), (60, .getfield 183, 1, 6, 1319), (63, .iload_n 1, 0, 0, 0), (64, .aload_n 0, 0, 0, 0), (65, .getfield 53, 4, 4, 510), (68, .iastore, 0, 0, 0), (69, .iinc 1 1, 0, 0, 0), (72, .goto (-70), 2, 0, 0), (75, .return_, 0, 0, 0)]
/-- X4 cutLeases -/
def a_c44_0 : List (Nat × aR) := [(0, .iconst 0, 0, 0, 0), (1, .istore_n 1, 0, 0, 0), (2, .iload_n 1, 0, 0, 0), (3, .aload_n 0, 0, 0, 0), (4, .getfield 28, 4, 2, 118), (7, .getfield 105, 1, 10, 1014), (10, .if_icmp .ge 64, 74, 0, 0), (13, .aload_n 0, 0, 0, 0), (14, .getfield 28, 4, 2, 118), (17, .iload_n 1, 0, 0, 0), (18, .invokevirtual 158, 11, 2, 1322), (21, .ifCond .eq 47, 68, 0, 0), (24, .aload_n 0, 0, 0, 0), (25, .getfield 28, 4, 2, 118), (28, .getfield 183, 1, 6, 1319), (31, .iload_n 1, 0, 0, 0), (32, .iaload, 0, 0, 0), (33, .aload_n 0, 0, 0, 0), (34, .getfield 53, 4, 4, 510), (37, .aload_n 0, 0, 0, 0), (38, .getfield 32, 4, 3, 119), (41, .iconst 2, 0, 0, 0), (42, .iaload, 0, 0, 0), (43, .isub, 0, 0, 0), (44, .if_icmp .gt 24, 68, 0, 0), (47, .aload_n 0, 0, 0, 0), (48, .getfield 28, 4, 2, 118), (51, .iload_n 1, 0, 0, 0), (52, .invokevirtual 120, 13, 2, 1411), (55, .aload_n 0, 0, 0, 0), (56, .getfield 28, 4, 2, 118), (59, .getfield 117, 1, 9, 1017), (62, .iload_n 1, 0, 0, 0), (63, .dup2, 0, 0, 0), (64, .iaload, 0, 0, 0), (65, .iconst 1, 0, 0, 0), (66, .iadd, 0, 0, 0), (67, .iastore, 0, 0, 0), (68, .iinc 1 1, 0, 0, 0), (71, .goto (-69), 2, 0, 0)]
def a_c44_1 : List (Nat × aR) := [(74, .return_, 0, 0, 0)]
def a_c44 : List (Nat × aR) := a_c44_0 ++ (a_c44_1)
/-- X4 asksNow -/
def a_c45 : List (Nat × aR) := [(0, .aload_n 0, 0, 0, 0), (1, .getfield 53, 4, 4, 510), (4, .iload_n 1, 0, 0, 0), (5, .iadd, 0, 0, 0), (6, .aload_n 0, 0, 0, 0), (7, .getfield 32, 4, 3, 119), (10, .iconst 1, 0, 0, 0), (11, .iaload, 0, 0, 0), (12, .irem, 0, 0, 0), (13, .ifCond .ne 7, 20, 0, 0), (16, .iconst 1, 0, 0, 0), (17, .goto 4, 21, 0, 0), (20, .iconst 0, 0, 0, 0), (21, .ireturn, 0, 0, 0)]
/-- X4 nextAsking -/
def a_c46 : List (Nat × aR) := [(0, .aload_n 0, 0, 0, 0), (1, .getfield 53, 4, 4, 510), (4, .aload_n 0, 0, 0, 0), (5, .getfield 32, 4, 3, 119), (8, .iconst 1, 0, 0, 0), (9, .iaload, 0, 0, 0), (10, .iadd, 0, 0, 0), (11, .aload_n 0, 0, 0, 0), (12, .getfield 53, 4, 4, 510), (15, .iload_n 1, 0, 0, 0), (16, .iadd, 0, 0, 0), (17, .aload_n 0, 0, 0, 0), (18, .getfield 32, 4, 3, 119), (21, .iconst 1, 0, 0, 0), (22, .iaload, 0, 0, 0), (23, .irem, 0, 0, 0), (24, .isub, 0, 0, 0), (25, .ireturn, 0, 0, 0)]
/-- X4 hopOrStrike -/
def a_c47_0 : List (Nat × aR) := [(0, .aload_n 0, 0, 0, 0), (1, .getfield 28, 4, 2, 118), (4, .getfield 186, 1, 4, 621), (7, .iload_n 1, 0, 0, 0), (8, .iaload, 0, 0, 0), (9, .istore_n 2, 0, 0, 0), (10, .iload_n 2, 0, 0, 0), (11, .ifCond .lt 47, 58, 0, 0), (14, .aload_n 0, 0, 0, 0), (15, .iload_n 1, 0, 0, 0), (16, .iload_n 2, 0, 0, 0), (17, .invokevirtual 144, 50, 3, 1621), (20, .istore_n 3, 0, 0, 0), (21, .iload_n 3, 0, 0, 0), (22, .bipush (-6), 0, 0, 0), (24, .if_icmp .eq 28, 52, 0, 0), (27, .aload_n 0, 0, 0, 0), (28, .getfield 28, 4, 2, 118), (31, .iload_n 1, 0, 0, 0), (32, .iload_n 3, 0, 0, 0), (33, .iload_n 2, 0, 0, 0), (34, .invokevirtual 147, 12, 4, 1706), (37, .aload_n 0, 0, 0, 0), (38, .getfield 28, 4, 2, 118), (41, .getfield 111, 1, 7, 1015), (44, .iload_n 1, 0, 0, 0), (45, .dup2, 0, 0, 0), (46, .iaload, 0, 0, 0), (47, .iconst 1, 0, 0, 0), (48, .iadd, 0, 0, 0), (49, .iastore, 0, 0, 0), (50, .iconst 1, 0, 0, 0), (51, .ireturn, 0, 0, 0), (52, .iinc 2 (-1), 0, 0, 0), (55, .goto (-45), 10, 0, 0), (58, .aload_n 0, 0, 0, 0), (59, .getfield 28, 4, 2, 118), (62, .iload_n 1, 0, 0, 0), (63, .invokevirtual 120, 13, 2, 1411), (66, .aload_n 0, 0, 0, 0)]
def a_c47_1 : List (Nat × aR) := [(67, .getfield 28, 4, 2, 118), (70, .getfield 114, 1, 8, 1016), (73, .iload_n 1, 0, 0, 0), (74, .dup2, 0, 0, 0), (75, .iaload, 0, 0, 0), (76, .iconst 1, 0, 0, 0), (77, .iadd, 0, 0, 0), (78, .iastore, 0, 0, 0), (79, .iconst 0, 0, 0, 0), (80, .ireturn, 0, 0, 0)]
def a_c47 : List (Nat × aR) := a_c47_0 ++ (a_c47_1)
/-- X4 refusal -/
def a_c48 : List (Nat × aR) := [(0, .aload_n 0, 0, 0, 0), (1, .getfield 28, 4, 2, 118), (4, .iload_n 1, 0, 0, 0), (5, .invokevirtual 155, 10, 2, 1320), (8, .ifCond .eq 5, 13, 0, 0), (11, .iconst 1, 0, 0, 0), (12, .ireturn, 0, 0, 0), (13, .iload_n 2, 0, 0, 0), (14, .aload_n 0, 0, 0, 0), (15, .getfield 28, 4, 2, 118), (18, .getfield 108, 1, 2, 1410), (21, .iload_n 1, 0, 0, 0), (22, .iaload, 0, 0, 0), (23, .if_icmp .le 5, 28, 0, 0), (26, .iconst 2, 0, 0, 0), (27, .ireturn, 0, 0, 0), (28, .aload_n 0, 0, 0, 0), (29, .iload_n 1, 0, 0, 0), (30, .iload_n 2, 0, 0, 0), (31, .invokevirtual 189, 49, 3, 1617), (34, .ifCond .ne 5, 39, 0, 0), (37, .iconst 3, 0, 0, 0), (38, .ireturn, 0, 0, 0), (39, .aload_n 0, 0, 0, 0), (40, .iload_n 1, 0, 0, 0), (41, .iload_n 2, 0, 0, 0), (42, .invokevirtual 144, 50, 3, 1621), (45, .bipush (-6), 0, 0, 0), (47, .if_icmp .ne 7, 54, 0, 0), (50, .iconst 4, 0, 0, 0), (51, .goto 4, 55, 0, 0), (54, .iconst 0, 0, 0, 0), (55, .ireturn, 0, 0, 0)]
/-- X4 isAllowedOnAny -/
def a_c49 : List (Nat × aR) := [(0, .iconst 0, 0, 0, 0), (1, .istore_n 3, 0, 0, 0), (2, .iload_n 3, 0, 0, 0), (3, .bipush 8, 0, 0, 0), (5, .if_icmp .ge 38, 43, 0, 0), (8, .aload_n 0, 0, 0, 0), (9, .iload_n 3, 0, 0, 0), (10, .iload_n 2, 0, 0, 0), (11, .aload_n 0, 0, 0, 0), (12, .getfield 28, 4, 2, 118), (15, .getfield 106, 1, 0, 622), (18, .iload_n 1, 0, 0, 0), (19, .iaload, 0, 0, 0), (20, .aload_n 0, 0, 0, 0), (21, .getfield 28, 4, 2, 118), (24, .getfield 107, 1, 1, 623), (27, .iload_n 1, 0, 0, 0), (28, .iaload, 0, 0, 0), (29, .invokevirtual 192, 53, 5, 700), (32, .ifCond .eq 5, 37, 0, 0), (35, .iconst 1, 0, 0, 0), (36, .ireturn, 0, 0, 0), (37, .iinc 3 1, 0, 0, 0), (40, .goto (-38), 2, 0, 0), (43, .iconst 0, 0, 0, 0), (44, .ireturn, 0, 0, 0)]
/-- X4 findOffer -/
def a_c50_0 : List (Nat × aR) := [(0, .bipush (-6), 0, 0, 0), (2, .istore_n 3, 0, 0, 0), (3, .bipush 16, 0, 0, 0), (5, .istore 4, 0, 0, 0), (7, .iconst 0, 0, 0, 0), (8, .istore 5, 0, 0, 0), (10, .iload 5, 0, 0, 0), (12, .bipush 8, 0, 0, 0), (14, .if_icmp .ge 90, 104, 0, 0), (17, .aload_n 0, 0, 0, 0), (18, .iload 5, 0, 0, 0), (20, .iload_n 2, 0, 0, 0), (21, .aload_n 0, 0, 0, 0), (22, .getfield 28, 4, 2, 118), (25, .getfield 106, 1, 0, 622), (28, .iload_n 1, 0, 0, 0), (29, .iaload, 0, 0, 0), (30, .aload_n 0, 0, 0, 0), (31, .getfield 28, 4, 2, 118), (34, .getfield 107, 1, 1, 623), (37, .iload_n 1, 0, 0, 0), (38, .iaload, 0, 0, 0), (39, .invokevirtual 192, 53, 5, 700), (42, .ifCond .eq 56, 98, 0, 0), (45, .aload_n 0, 0, 0, 0), (46, .iload 5, 0, 0, 0), (48, .iload_n 1, 0, 0, 0), (49, .iload_n 2, 0, 0, 0), (50, .invokevirtual 196, 51, 4, 1701), (53, .ifCond .eq 45, 98, 0, 0), (56, .aload_n 0, 0, 0, 0), (57, .getfield 28, 4, 2, 118), (60, .iload 5, 0, 0, 0), (62, .invokevirtual 199, 16, 2, 1705), (65, .istore 6, 0, 0, 0), (67, .aload_n 0, 0, 0, 0), (68, .getfield 28, 4, 2, 118), (71, .getfield 154, 1, 3, 620), (74, .iload_n 1, 0, 0, 0), (75, .iaload, 0, 0, 0)]
def a_c50_1 : List (Nat × aR) := [(76, .iload 5, 0, 0, 0), (78, .if_icmp .ne 6, 84, 0, 0), (81, .iinc 6 (-1), 0, 0, 0), (84, .iload 6, 0, 0, 0), (86, .iload 4, 0, 0, 0), (88, .if_icmp .ge 10, 98, 0, 0), (91, .iload 6, 0, 0, 0), (93, .istore 4, 0, 0, 0), (95, .iload 5, 0, 0, 0), (97, .istore_n 3, 0, 0, 0), (98, .iinc 5 1, 0, 0, 0), (101, .goto (-91), 10, 0, 0), (104, .iload_n 3, 0, 0, 0), (105, .ireturn, 0, 0, 0)]
def a_c50 : List (Nat × aR) := a_c50_0 ++ (a_c50_1)
/-- X4 isFree -/
def a_c51_0 : List (Nat × aR) := [(0, .iconst 0, 0, 0, 0), (1, .istore 4, 0, 0, 0), (3, .iload 4, 0, 0, 0), (5, .aload_n 0, 0, 0, 0), (6, .getfield 28, 4, 2, 118), (9, .getfield 105, 1, 10, 1014), (12, .if_icmp .ge 97, 109, 0, 0), (15, .iload 4, 0, 0, 0), (17, .iload_n 2, 0, 0, 0), (18, .if_icmp .eq 85, 103, 0, 0), (21, .aload_n 0, 0, 0, 0), (22, .getfield 28, 4, 2, 118), (25, .getfield 154, 1, 3, 620), (28, .iload 4, 0, 0, 0), (30, .iaload, 0, 0, 0), (31, .iload_n 1, 0, 0, 0), (32, .if_icmp .ne 71, 103, 0, 0), (35, .aload_n 0, 0, 0, 0), (36, .getfield 28, 4, 2, 118), (39, .getfield 106, 1, 0, 622), (42, .iload 4, 0, 0, 0), (44, .iaload, 0, 0, 0), (45, .aload_n 0, 0, 0, 0), (46, .getfield 28, 4, 2, 118), (49, .getfield 106, 1, 0, 622), (52, .iload_n 2, 0, 0, 0), (53, .iaload, 0, 0, 0), (54, .isub, 0, 0, 0), (55, .aload_n 0, 0, 0, 0), (56, .getfield 28, 4, 2, 118), (59, .getfield 107, 1, 1, 623), (62, .iload 4, 0, 0, 0), (64, .iaload, 0, 0, 0), (65, .aload_n 0, 0, 0, 0), (66, .getfield 28, 4, 2, 118), (69, .getfield 107, 1, 1, 623), (72, .iload_n 2, 0, 0, 0), (73, .iaload, 0, 0, 0), (74, .isub, 0, 0, 0), (75, .getstatic 202, 42, 0, 5009)]
def a_c51_1 : List (Nat × aR) := [(78, .aload_n 0, 0, 0, 0), (79, .getfield 28, 4, 2, 118), (82, .getfield 186, 1, 4, 621), (85, .iload 4, 0, 0, 0), (87, .iaload, 0, 0, 0), (88, .iaload, 0, 0, 0), (89, .getstatic 202, 42, 0, 5009), (92, .iload_n 3, 0, 0, 0), (93, .iaload, 0, 0, 0), (94, .iadd, 0, 0, 0), (95, .invokestatic 205, 95, 3, 5004), (98, .ifCond .eq 5, 103, 0, 0), (101, .iconst 0, 0, 0, 0), (102, .ireturn, 0, 0, 0), (103, .iinc 4 1, 0, 0, 0), (106, .goto (-103), 3, 0, 0), (109, .iconst 1, 0, 0, 0), (110, .ireturn, 0, 0, 0)]
def a_c51 : List (Nat × aR) := a_c51_0 ++ (a_c51_1)
/-- X4 leaseIsAllowed -/
def a_c52 : List (Nat × aR) := [(0, .aload_n 0, 0, 0, 0), (1, .aload_n 0, 0, 0, 0), (2, .getfield 28, 4, 2, 118), (5, .getfield 154, 1, 3, 620), (8, .iload_n 1, 0, 0, 0), (9, .iaload, 0, 0, 0), (10, .aload_n 0, 0, 0, 0), (11, .getfield 28, 4, 2, 118), (14, .getfield 186, 1, 4, 621), (17, .iload_n 1, 0, 0, 0), (18, .iaload, 0, 0, 0), (19, .aload_n 0, 0, 0, 0), (20, .getfield 28, 4, 2, 118), (23, .getfield 106, 1, 0, 622), (26, .iload_n 1, 0, 0, 0), (27, .iaload, 0, 0, 0), (28, .aload_n 0, 0, 0, 0), (29, .getfield 28, 4, 2, 118), (32, .getfield 107, 1, 1, 623), (35, .iload_n 1, 0, 0, 0), (36, .iaload, 0, 0, 0), (37, .invokevirtual 192, 53, 5, 700), (40, .ireturn, 0, 0, 0)]
/-- X4 isAllowed -/
def a_c53_0 : List (Nat × aR) := [(0, .iconst 0, 0, 0, 0), (1, .istore 5, 0, 0, 0), (3, .iload 5, 0, 0, 0), (5, .aload_n 0, 0, 0, 0), (6, .getfield 12, 4, 0, 110), (9, .getfield 68, 5, 5, 704), (12, .if_icmp .ge 65, 77, 0, 0), (15, .aload_n 0, 0, 0, 0), (16, .iload 5, 0, 0, 0), (18, .iload_n 1, 0, 0, 0), (19, .invokevirtual 208, 54, 3, 712), (22, .istore 6, 0, 0, 0), (24, .iload 6, 0, 0, 0), (26, .iconst (-1), 0, 0, 0), (27, .if_icmp .eq 44, 71, 0, 0), (30, .aload_n 0, 0, 0, 0), (31, .getfield 12, 4, 0, 110), (34, .getfield 71, 5, 0, 705), (37, .iload 5, 0, 0, 0), (39, .iaload, 0, 0, 0), (40, .iload_n 3, 0, 0, 0), (41, .isub, 0, 0, 0), (42, .aload_n 0, 0, 0, 0), (43, .getfield 12, 4, 0, 110), (46, .getfield 74, 5, 1, 706), (49, .iload 5, 0, 0, 0), (51, .iaload, 0, 0, 0), (52, .iload 4, 0, 0, 0), (54, .isub, 0, 0, 0), (55, .iload 6, 0, 0, 0), (57, .getstatic 202, 42, 0, 5009), (60, .iload_n 2, 0, 0, 0), (61, .iaload, 0, 0, 0), (62, .iadd, 0, 0, 0), (63, .invokestatic 205, 95, 3, 5004), (66, .ifCond .eq 5, 71, 0, 0), (69, .iconst 0, 0, 0, 0), (70, .ireturn, 0, 0, 0), (71, .iinc 5 1, 0, 0, 0), (74, .goto (-71), 3, 0, 0)]
def a_c53_1 : List (Nat × aR) := [(77, .iconst 0, 0, 0, 0), (78, .istore 5, 0, 0, 0), (80, .iload 5, 0, 0, 0), (82, .aload_n 0, 0, 0, 0), (83, .getfield 21, 4, 1, 114), (86, .getfield 86, 2, 7, 707), (89, .if_icmp .ge 88, 177, 0, 0), (92, .aload_n 0, 0, 0, 0), (93, .getfield 21, 4, 1, 114), (96, .getfield 92, 2, 3, 708), (99, .iload 5, 0, 0, 0), (101, .iaload, 0, 0, 0), (102, .iload_n 1, 0, 0, 0), (103, .if_icmp .ne 68, 171, 0, 0), (106, .aload_n 0, 0, 0, 0), (107, .getfield 21, 4, 1, 114), (110, .iload 5, 0, 0, 0), (112, .aload_n 0, 0, 0, 0), (113, .getfield 53, 4, 4, 510), (116, .invokevirtual 211, 24, 3, 721), (119, .ifCond .eq 52, 171, 0, 0), (122, .aload_n 0, 0, 0, 0), (123, .getfield 21, 4, 1, 114), (126, .getfield 87, 2, 0, 709), (129, .iload 5, 0, 0, 0), (131, .iaload, 0, 0, 0), (132, .iload_n 3, 0, 0, 0), (133, .isub, 0, 0, 0), (134, .aload_n 0, 0, 0, 0), (135, .getfield 21, 4, 1, 114), (138, .getfield 88, 2, 1, 710), (141, .iload 5, 0, 0, 0), (143, .iaload, 0, 0, 0), (144, .iload 4, 0, 0, 0), (146, .isub, 0, 0, 0), (147, .aload_n 0, 0, 0, 0), (148, .getfield 21, 4, 1, 114), (151, .getfield 89, 2, 2, 711), (154, .iload 5, 0, 0, 0), (156, .iaload, 0, 0, 0)]
def a_c53_2 : List (Nat × aR) := [(157, .getstatic 202, 42, 0, 5009), (160, .iload_n 2, 0, 0, 0), (161, .iaload, 0, 0, 0), (162, .iadd, 0, 0, 0), (163, .invokestatic 205, 95, 3, 5004), (166, .ifCond .eq 5, 171, 0, 0), (169, .iconst 0, 0, 0, 0), (170, .ireturn, 0, 0, 0), (171, .iinc 5 1, 0, 0, 0), (174, .goto (-94), 80, 0, 0), (177, .iconst 1, 0, 0, 0), (178, .ireturn, 0, 0, 0)]
def a_c53 : List (Nat × aR) := a_c53_0 ++ (a_c53_1 ++ (a_c53_2))
/-- X4 barredRadius -/
def a_c54_0 : List (Nat × aR) := [(0, .aload_n 0, 0, 0, 0), (1, .getfield 12, 4, 0, 110), (4, .getfield 83, 5, 4, 716), (7, .iload_n 1, 0, 0, 0), (8, .iaload, 0, 0, 0), (9, .ifCond .ne 5, 14, 0, 0), (12, .iconst (-1), 0, 0, 0), (13, .ireturn, 0, 0, 0), (14, .getstatic 214, 41, 0, 5008), (17, .aload_n 0, 0, 0, 0), (18, .getfield 12, 4, 0, 110), (21, .getfield 80, 5, 3, 717), (24, .iload_n 1, 0, 0, 0), (25, .iaload, 0, 0, 0), (26, .iaload, 0, 0, 0), (27, .istore_n 3, 0, 0, 0), (28, .aload_n 0, 0, 0, 0), (29, .getfield 12, 4, 0, 110), (32, .getfield 77, 5, 2, 718), (35, .iload_n 1, 0, 0, 0), (36, .iaload, 0, 0, 0), (37, .iload_n 2, 0, 0, 0), (38, .isub, 0, 0, 0), (39, .istore 4, 0, 0, 0), (41, .iload 4, 0, 0, 0), (43, .ifCond .ne 5, 48, 0, 0), (46, .iload_n 3, 0, 0, 0), (47, .ireturn, 0, 0, 0), (48, .iload 4, 0, 0, 0), (50, .iconst 1, 0, 0, 0), (51, .if_icmp .eq 9, 60, 0, 0), (54, .iload 4, 0, 0, 0), (56, .iconst (-1), 0, 0, 0), (57, .if_icmp .ne 15, 72, 0, 0), (60, .iload_n 3, 0, 0, 0), (61, .aload_n 0, 0, 0, 0), (62, .getfield 32, 4, 3, 119), (65, .iconst 0, 0, 0, 0), (66, .iaload, 0, 0, 0), (67, .imul, 0, 0, 0)]
def a_c54_1 : List (Nat × aR) := [(68, .bipush 100, 0, 0, 0), (70, .idiv, 0, 0, 0), (71, .ireturn, 0, 0, 0), (72, .iconst (-1), 0, 0, 0), (73, .ireturn, 0, 0, 0)]
def a_c54 : List (Nat × aR) := a_c54_0 ++ (a_c54_1)
/-- X4 tellTotal -/
def a_c55_0 : List (Nat × aR) := [(0, .iload_n 1, 0, 0, 0), (1, .tableswitch 192 0 14 #[75, 80, 88, 96, 104, 112, 120, 128, 143, 158, 173, 192, 192, 178, 185], 0, 75, 0), (76, .aload_n 0, 0, 0, 0), (77, .getfield 53, 4, 4, 510), (80, .ireturn, 0, 0, 0), (81, .aload_n 0, 0, 0, 0), (82, .getfield 12, 4, 0, 110), (85, .getfield 68, 5, 5, 704), (88, .ireturn, 0, 0, 0), (89, .aload_n 0, 0, 0, 0), (90, .getfield 21, 4, 1, 114), (93, .getfield 86, 2, 7, 707), (96, .ireturn, 0, 0, 0), (97, .aload_n 0, 0, 0, 0), (98, .getfield 28, 4, 2, 118), (101, .getfield 105, 1, 10, 1014), (104, .ireturn, 0, 0, 0), (105, .aload_n 0, 0, 0, 0), (106, .getfield 12, 4, 0, 110), (109, .invokevirtual 217, 58, 1, 1018), (112, .ireturn, 0, 0, 0), (113, .aload_n 0, 0, 0, 0), (114, .getfield 28, 4, 2, 118), (117, .invokevirtual 161, 15, 1, 1022), (120, .ireturn, 0, 0, 0), (121, .aload_n 0, 0, 0, 0), (122, .getfield 28, 4, 2, 118), (125, .invokevirtual 134, 17, 1, 1102), (128, .ireturn, 0, 0, 0), (129, .aload_n 0, 0, 0, 0), (130, .getfield 28, 4, 2, 118), (133, .aload_n 0, 0, 0, 0), (134, .getfield 28, 4, 2, 118), (137, .getfield 111, 1, 7, 1015), (140, .invokevirtual 220, 18, 2, 1106), (143, .ireturn, 0, 0, 0), (144, .aload_n 0, 0, 0, 0), (145, .getfield 28, 4, 2, 118), (148, .aload_n 0, 0, 0, 0), (149, .getfield 28, 4, 2, 118)]
def a_c55_1 : List (Nat × aR) := [(152, .getfield 114, 1, 8, 1016), (155, .invokevirtual 220, 18, 2, 1106), (158, .ireturn, 0, 0, 0), (159, .aload_n 0, 0, 0, 0), (160, .getfield 28, 4, 2, 118), (163, .aload_n 0, 0, 0, 0), (164, .getfield 28, 4, 2, 118), (167, .getfield 117, 1, 9, 1017), (170, .invokevirtual 220, 18, 2, 1106), (173, .ireturn, 0, 0, 0), (174, .aload_n 0, 0, 0, 0), (175, .getfield 57, 4, 5, 511), (178, .ireturn, 0, 0, 0), (179, .aload_n 0, 0, 0, 0), (180, .getfield 32, 4, 3, 119), (183, .iconst 0, 0, 0, 0), (184, .iaload, 0, 0, 0), (185, .ireturn, 0, 0, 0), (186, .aload_n 0, 0, 0, 0), (187, .getfield 32, 4, 3, 119), (190, .iconst 1, 0, 0, 0), (191, .iaload, 0, 0, 0), (192, .ireturn, 0, 0, 0), (193, .aload_n 0, 0, 0, 0), (194, .getfield 32, 4, 3, 119), (197, .iconst 2, 0, 0, 0), (198, .iaload, 0, 0, 0), (199, .ireturn, 0, 0, 0)]
def a_c55 : List (Nat × aR) := a_c55_0 ++ (a_c55_1)
/-- X5 has -/
def a_c56 : List (Nat × aR) := [(0, .iload_n 1, 0, 0, 0), (1, .ifCond .lt 15, 16, 0, 0), (4, .iload_n 1, 0, 0, 0), (5, .aload_n 0, 0, 0, 0), (6, .getfield 27, 5, 5, 419), (9, .if_icmp .ge 7, 16, 0, 0), (12, .iconst 1, 0, 0, 0), (13, .goto 4, 17, 0, 0), (16, .iconst 0, 0, 0, 0), (17, .ireturn, 0, 0, 0)]
/-- X5 tell -/
def a_c57 : List (Nat × aR) := [(0, .iload_n 2, 0, 0, 0), (1, .tableswitch 74 0 4 #[35, 42, 49, 56, 63], 0, 35, 0), (36, .aload_n 0, 0, 0, 0), (37, .getfield 9, 5, 0, 123), (40, .iload_n 1, 0, 0, 0), (41, .iaload, 0, 0, 0), (42, .ireturn, 0, 0, 0), (43, .aload_n 0, 0, 0, 0), (44, .getfield 15, 5, 1, 200), (47, .iload_n 1, 0, 0, 0), (48, .iaload, 0, 0, 0), (49, .ireturn, 0, 0, 0), (50, .aload_n 0, 0, 0, 0), (51, .getfield 18, 5, 2, 201), (54, .iload_n 1, 0, 0, 0), (55, .iaload, 0, 0, 0), (56, .ireturn, 0, 0, 0), (57, .aload_n 0, 0, 0, 0), (58, .getfield 21, 5, 3, 202), (61, .iload_n 1, 0, 0, 0), (62, .iaload, 0, 0, 0), (63, .ireturn, 0, 0, 0), (64, .getstatic 31, 41, 0, 5010), (67, .aload_n 0, 0, 0, 0), (68, .getfield 21, 5, 3, 202), (71, .iload_n 1, 0, 0, 0), (72, .iaload, 0, 0, 0), (73, .iaload, 0, 0, 0), (74, .ireturn, 0, 0, 0), (75, .aload_n 0, 0, 0, 0), (76, .getfield 24, 5, 4, 203), (79, .iload_n 1, 0, 0, 0), (80, .iaload, 0, 0, 0), (81, .ireturn, 0, 0, 0)]
/-- X5 countAwake -/
def a_c58 : List (Nat × aR) := [(0, .iconst 0, 0, 0, 0), (1, .istore_n 1, 0, 0, 0), (2, .iconst 0, 0, 0, 0), (3, .istore_n 2, 0, 0, 0), (4, .iload_n 2, 0, 0, 0), (5, .aload_n 0, 0, 0, 0), (6, .getfield 27, 5, 5, 419), (9, .if_icmp .ge 18, 27, 0, 0), (12, .iload_n 1, 0, 0, 0), (13, .aload_n 0, 0, 0, 0), (14, .getfield 24, 5, 4, 203), (17, .iload_n 2, 0, 0, 0), (18, .iaload, 0, 0, 0), (19, .iadd, 0, 0, 0), (20, .istore_n 1, 0, 0, 0), (21, .iinc 2 1, 0, 0, 0), (24, .goto (-20), 4, 0, 0), (27, .iload_n 1, 0, 0, 0), (28, .ireturn, 0, 0, 0)]
/-- X5 copyFrom -/
def a_c59 : List (Nat × aR) := [(0, .aload_n 1, 0, 0, 0), (1, .getfield 9, 5, 0, 123), (4, .aload_n 0, 0, 0, 0), (5, .getfield 9, 5, 0, 123), (8, .invokestatic 34, 96, 2, 5000), (11, .aload_n 1, 0, 0, 0), (12, .getfield 15, 5, 1, 200), (15, .aload_n 0, 0, 0, 0), (16, .getfield 15, 5, 1, 200), (19, .invokestatic 34, 96, 2, 5000), (22, .aload_n 1, 0, 0, 0), (23, .getfield 18, 5, 2, 201), (26, .aload_n 0, 0, 0, 0), (27, .getfield 18, 5, 2, 201), (30, .invokestatic 34, 96, 2, 5000), (33, .aload_n 1, 0, 0, 0), (34, .getfield 21, 5, 3, 202), (37, .aload_n 0, 0, 0, 0), (38, .getfield 21, 5, 3, 202), (41, .invokestatic 34, 96, 2, 5000), (44, .aload_n 1, 0, 0, 0), (45, .getfield 24, 5, 4, 203), (48, .aload_n 0, 0, 0, 0), (49, .getfield 24, 5, 4, 203), (52, .invokestatic 34, 96, 2, 5000), (55, .aload_n 0, 0, 0, 0), (56, .aload_n 1, 0, 0, 0), (57, .getfield 27, 5, 5, 419), (60, .putfield 27, 5, 5, 419), (63, .return_, 0, 0, 0)]
/-- X6 addStation -/
def a_c60 : List (Nat × aR) := [(0, .aload_n 0, 0, 0, 0), (1, .getfield 22, 6, 2, 19), (4, .aload_n 0, 0, 0, 0), (5, .getfield 10, 6, 0, 14), (8, .invokevirtual 41, 27, 2, 1207), (11, .aload_n 0, 0, 0, 0), (12, .aload_n 0, 0, 0, 0), (13, .getfield 10, 6, 0, 14), (16, .iload_n 1, 0, 0, 0), (17, .iload_n 2, 0, 0, 0), (18, .iload_n 3, 0, 0, 0), (19, .iload 4, 0, 0, 0), (21, .invokevirtual 45, 31, 5, 1214), (24, .invokevirtual 49, 91, 2, 1220), (27, .ireturn, 0, 0, 0)]
/-- X6 addEvent -/
def a_c61 : List (Nat × aR) := [(0, .aload_n 0, 0, 0, 0), (1, .getfield 22, 6, 2, 19), (4, .aload_n 0, 0, 0, 0), (5, .getfield 10, 6, 0, 14), (8, .invokevirtual 41, 27, 2, 1207), (11, .aload_n 0, 0, 0, 0), (12, .aload_n 0, 0, 0, 0), (13, .getfield 10, 6, 0, 14), (16, .iload_n 1, 0, 0, 0), (17, .iload_n 2, 0, 0, 0), (18, .iload_n 3, 0, 0, 0), (19, .iload 4, 0, 0, 0), (21, .iload 5, 0, 0, 0), (23, .iload 6, 0, 0, 0), (25, .invokevirtual 53, 32, 7, 1308), (28, .invokevirtual 49, 91, 2, 1220), (31, .ireturn, 0, 0, 0)]
/-- X6 addDevice -/
def a_c62 : List (Nat × aR) := [(0, .aload_n 0, 0, 0, 0), (1, .getfield 22, 6, 2, 19), (4, .aload_n 0, 0, 0, 0), (5, .getfield 10, 6, 0, 14), (8, .invokevirtual 41, 27, 2, 1207), (11, .aload_n 0, 0, 0, 0), (12, .aload_n 0, 0, 0, 0), (13, .getfield 10, 6, 0, 14), (16, .iload_n 1, 0, 0, 0), (17, .iload_n 2, 0, 0, 0), (18, .iload_n 3, 0, 0, 0), (19, .invokevirtual 57, 33, 4, 1406), (22, .invokevirtual 49, 91, 2, 1220), (25, .ireturn, 0, 0, 0)]
/-- X6 set -/
def a_c63 : List (Nat × aR) := [(0, .aload_n 0, 0, 0, 0), (1, .getfield 22, 6, 2, 19), (4, .aload_n 0, 0, 0, 0), (5, .getfield 10, 6, 0, 14), (8, .invokevirtual 41, 27, 2, 1207), (11, .aload_n 0, 0, 0, 0), (12, .aload_n 0, 0, 0, 0), (13, .getfield 10, 6, 0, 14), (16, .iload_n 1, 0, 0, 0), (17, .iload_n 2, 0, 0, 0), (18, .invokevirtual 61, 34, 3, 1523), (21, .invokevirtual 49, 91, 2, 1220), (24, .ireturn, 0, 0, 0)]
/-- X6 wake -/
def a_c64 : List (Nat × aR) := [(0, .aload_n 0, 0, 0, 0), (1, .getfield 22, 6, 2, 19), (4, .aload_n 0, 0, 0, 0), (5, .getfield 10, 6, 0, 14), (8, .invokevirtual 41, 27, 2, 1207), (11, .aload_n 0, 0, 0, 0), (12, .aload_n 0, 0, 0, 0), (13, .getfield 10, 6, 0, 14), (16, .iload_n 1, 0, 0, 0), (17, .iconst 1, 0, 0, 0), (18, .invokevirtual 65, 35, 3, 1501), (21, .invokevirtual 49, 91, 2, 1220), (24, .ireturn, 0, 0, 0)]
/-- X6 sleep -/
def a_c65 : List (Nat × aR) := [(0, .aload_n 0, 0, 0, 0), (1, .getfield 22, 6, 2, 19), (4, .aload_n 0, 0, 0, 0), (5, .getfield 10, 6, 0, 14), (8, .invokevirtual 41, 27, 2, 1207), (11, .aload_n 0, 0, 0, 0), (12, .aload_n 0, 0, 0, 0), (13, .getfield 10, 6, 0, 14), (16, .iload_n 1, 0, 0, 0), (17, .iconst 0, 0, 0, 0), (18, .invokevirtual 65, 35, 3, 1501), (21, .invokevirtual 49, 91, 2, 1220), (24, .ireturn, 0, 0, 0)]
/-- X6 cancel -/
def a_c66 : List (Nat × aR) := [(0, .aload_n 0, 0, 0, 0), (1, .getfield 22, 6, 2, 19), (4, .aload_n 0, 0, 0, 0), (5, .getfield 10, 6, 0, 14), (8, .invokevirtual 41, 27, 2, 1207), (11, .aload_n 0, 0, 0, 0), (12, .aload_n 0, 0, 0, 0), (13, .getfield 10, 6, 0, 14), (16, .iload_n 1, 0, 0, 0), (17, .invokevirtual 68, 36, 2, 1514), (20, .invokevirtual 49, 91, 2, 1220), (23, .ireturn, 0, 0, 0)]
/-- X6 lease -/
def a_c67 : List (Nat × aR) := [(0, .aload_n 0, 0, 0, 0), (1, .getfield 22, 6, 2, 19), (4, .aload_n 0, 0, 0, 0), (5, .getfield 10, 6, 0, 14), (8, .invokevirtual 41, 27, 2, 1207), (11, .aload_n 0, 0, 0, 0), (12, .aload_n 0, 0, 0, 0), (13, .getfield 10, 6, 0, 14), (16, .iload_n 1, 0, 0, 0), (17, .iload_n 2, 0, 0, 0), (18, .iload_n 3, 0, 0, 0), (19, .invokevirtual 71, 37, 4, 1607), (22, .invokevirtual 49, 91, 2, 1220), (25, .ireturn, 0, 0, 0)]
/-- X6 renew -/
def a_c68 : List (Nat × aR) := [(0, .aload_n 0, 0, 0, 0), (1, .getfield 22, 6, 2, 19), (4, .aload_n 0, 0, 0, 0), (5, .getfield 10, 6, 0, 14), (8, .invokevirtual 41, 27, 2, 1207), (11, .aload_n 0, 0, 0, 0), (12, .aload_n 0, 0, 0, 0), (13, .getfield 10, 6, 0, 14), (16, .iload_n 1, 0, 0, 0), (17, .iload_n 2, 0, 0, 0), (18, .invokevirtual 74, 38, 3, 1714), (21, .invokevirtual 49, 91, 2, 1220), (24, .ireturn, 0, 0, 0)]
/-- X6 giveBack -/
def a_c69 : List (Nat × aR) := [(0, .aload_n 0, 0, 0, 0), (1, .getfield 22, 6, 2, 19), (4, .aload_n 0, 0, 0, 0), (5, .getfield 10, 6, 0, 14), (8, .invokevirtual 41, 27, 2, 1207), (11, .aload_n 0, 0, 0, 0), (12, .aload_n 0, 0, 0, 0), (13, .getfield 10, 6, 0, 14), (16, .iload_n 1, 0, 0, 0), (17, .invokevirtual 77, 39, 2, 1722), (20, .invokevirtual 49, 91, 2, 1220), (23, .ireturn, 0, 0, 0)]
/-- X6 pass -/
def a_c70 : List (Nat × aR) := [(0, .aload_n 0, 0, 0, 0), (1, .getfield 22, 6, 2, 19), (4, .aload_n 0, 0, 0, 0), (5, .getfield 10, 6, 0, 14), (8, .invokevirtual 41, 27, 2, 1207), (11, .aload_n 0, 0, 0, 0), (12, .aload_n 0, 0, 0, 0), (13, .getfield 10, 6, 0, 14), (16, .iload_n 1, 0, 0, 0), (17, .invokevirtual 80, 40, 2, 1815), (20, .invokevirtual 49, 91, 2, 1220), (23, .ireturn, 0, 0, 0)]
/-- X1 has -/
def a_c71 : List (Nat × aR) := []
/-- X1 has -/
def a_c72 : List (Nat × aR) := []
/-- X1 has -/
def a_c73 : List (Nat × aR) := []
/-- X1 has -/
def a_c74 : List (Nat × aR) := []
/-- X1 has -/
def a_c75 : List (Nat × aR) := []
/-- X1 has -/
def a_c76 : List (Nat × aR) := []
/-- X1 has -/
def a_c77 : List (Nat × aR) := []
/-- X6 station -/
def a_c78 : List (Nat × aR) := [(0, .aload_n 0, 0, 0, 0), (1, .getfield 10, 6, 0, 14), (4, .getfield 132, 4, 0, 414), (7, .iload_n 1, 0, 0, 0), (8, .invokevirtual 136, 56, 2, 415), (11, .ifCond .ne 5, 16, 0, 0), (14, .iconst (-1), 0, 0, 0), (15, .ireturn, 0, 0, 0), (16, .iload_n 2, 0, 0, 0), (17, .iconst 0, 0, 0, 0), (18, .bipush 6, 0, 0, 0), (20, .invokestatic 122, 93, 3, 420), (23, .ifCond .eq 6, 29, 0, 0), (26, .bipush (-2), 0, 0, 0), (28, .ireturn, 0, 0, 0), (29, .iload_n 2, 0, 0, 0), (30, .bipush 6, 0, 0, 0), (32, .if_icmp .ne 9, 41, 0, 0), (35, .aload_n 0, 0, 0, 0), (36, .iload_n 1, 0, 0, 0), (37, .invokevirtual 142, 92, 2, 423), (40, .ireturn, 0, 0, 0), (41, .aload_n 0, 0, 0, 0), (42, .getfield 10, 6, 0, 14), (45, .getfield 132, 4, 0, 414), (48, .iload_n 1, 0, 0, 0), (49, .iload_n 2, 0, 0, 0), (50, .invokevirtual 145, 57, 3, 801), (53, .ireturn, 0, 0, 0)]
/-- X6 event -/
def a_c79 : List (Nat × aR) := [(0, .aload_n 0, 0, 0, 0), (1, .getfield 10, 6, 0, 14), (4, .getfield 148, 4, 1, 809), (7, .iload_n 1, 0, 0, 0), (8, .invokevirtual 152, 23, 2, 811), (11, .ifCond .ne 5, 16, 0, 0), (14, .iconst (-1), 0, 0, 0), (15, .ireturn, 0, 0, 0), (16, .iload_n 2, 0, 0, 0), (17, .iconst 0, 0, 0, 0), (18, .bipush 7, 0, 0, 0), (20, .invokestatic 122, 93, 3, 420), (23, .ifCond .eq 6, 29, 0, 0), (26, .bipush (-2), 0, 0, 0), (28, .ireturn, 0, 0, 0), (29, .aload_n 0, 0, 0, 0), (30, .getfield 10, 6, 0, 14), (33, .getfield 148, 4, 1, 809), (36, .iload_n 1, 0, 0, 0), (37, .iload_n 2, 0, 0, 0), (38, .aload_n 0, 0, 0, 0), (39, .getfield 10, 6, 0, 14), (42, .getfield 129, 4, 4, 810), (45, .invokevirtual 155, 25, 4, 815), (48, .ireturn, 0, 0, 0)]
/-- X6 device -/
def a_c80 : List (Nat × aR) := [(0, .aload_n 0, 0, 0, 0), (1, .getfield 10, 6, 0, 14), (4, .getfield 157, 4, 2, 504), (7, .iload_n 1, 0, 0, 0), (8, .invokevirtual 161, 9, 2, 900), (11, .ifCond .ne 5, 16, 0, 0), (14, .iconst (-1), 0, 0, 0), (15, .ireturn, 0, 0, 0), (16, .iload_n 2, 0, 0, 0), (17, .iconst 0, 0, 0, 0), (18, .bipush 10, 0, 0, 0), (20, .invokestatic 122, 93, 3, 420), (23, .ifCond .eq 6, 29, 0, 0), (26, .bipush (-2), 0, 0, 0), (28, .ireturn, 0, 0, 0), (29, .iload_n 2, 0, 0, 0), (30, .bipush 10, 0, 0, 0), (32, .if_icmp .ne 12, 44, 0, 0), (35, .aload_n 0, 0, 0, 0), (36, .getfield 10, 6, 0, 14), (39, .iload_n 1, 0, 0, 0), (40, .invokevirtual 164, 46, 2, 904), (43, .ireturn, 0, 0, 0), (44, .aload_n 0, 0, 0, 0), (45, .getfield 10, 6, 0, 14), (48, .getfield 157, 4, 2, 504), (51, .iload_n 1, 0, 0, 0), (52, .iload_n 2, 0, 0, 0), (53, .invokevirtual 167, 14, 3, 908), (56, .ireturn, 0, 0, 0)]
/-- X1 has -/
def a_c81 : List (Nat × aR) := []
/-- X1 has -/
def a_c82 : List (Nat × aR) := []
/-- X1 has -/
def a_c83 : List (Nat × aR) := []
/-- X6 leases -/
def a_c84 : List (Nat × aR) := [(0, .iload_n 1, 0, 0, 0), (1, .iconst 0, 0, 0, 0), (2, .bipush 7, 0, 0, 0), (4, .invokestatic 122, 93, 3, 420), (7, .ifCond .eq 6, 13, 0, 0), (10, .bipush (-2), 0, 0, 0), (12, .ireturn, 0, 0, 0), (13, .aload_n 0, 0, 0, 0), (14, .getfield 10, 6, 0, 14), (17, .getfield 157, 4, 2, 504), (20, .iload_n 1, 0, 0, 0), (21, .invokevirtual 182, 16, 2, 921), (24, .ireturn, 0, 0, 0)]
/-- X6 total -/
def a_c85 : List (Nat × aR) := [(0, .iload_n 1, 0, 0, 0), (1, .iconst 0, 0, 0, 0), (2, .bipush 15, 0, 0, 0), (4, .invokestatic 122, 93, 3, 420), (7, .ifCond .eq 6, 13, 0, 0), (10, .bipush (-2), 0, 0, 0), (12, .ireturn, 0, 0, 0), (13, .iload_n 1, 0, 0, 0), (14, .bipush 11, 0, 0, 0), (16, .if_icmp .ne 11, 27, 0, 0), (19, .aload_n 0, 0, 0, 0), (20, .getfield 22, 6, 2, 19), (23, .getfield 116, 3, 2, 1008), (26, .ireturn, 0, 0, 0), (27, .iload_n 1, 0, 0, 0), (28, .bipush 12, 0, 0, 0), (30, .if_icmp .ne 11, 41, 0, 0), (33, .aload_n 0, 0, 0, 0), (34, .getfield 37, 6, 5, 102), (37, .getfield 185, 0, 1, 1009), (40, .ireturn, 0, 0, 0), (41, .aload_n 0, 0, 0, 0), (42, .getfield 10, 6, 0, 14), (45, .iload_n 1, 0, 0, 0), (46, .invokevirtual 188, 55, 2, 1010), (49, .ireturn, 0, 0, 0)]
/-- X1 has -/
def a_c86 : List (Nat × aR) := []
/-- X1 has -/
def a_c87 : List (Nat × aR) := []
/-- X1 has -/
def a_c88 : List (Nat × aR) := []
/-- X1 has -/
def a_c89 : List (Nat × aR) := []
/-- X1 has -/
def a_c90 : List (Nat × aR) := []
/-- X6 recorded -/
def a_c91 : List (Nat × aR) := [(0, .iload_n 1, 0, 0, 0), (1, .ifCond .lt 10, 11, 0, 0), (4, .aload_n 0, 0, 0, 0), (5, .getfield 22, 6, 2, 19), (8, .invokevirtual 215, 28, 1, 1300), (11, .iload_n 1, 0, 0, 0), (12, .ireturn, 0, 0, 0)]
/-- X6 barredAlone -/
def a_c92_0 : List (Nat × aR) := [(0, .aload_n 0, 0, 0, 0), (1, .getfield 16, 6, 1, 15), (4, .aload_n 0, 0, 0, 0), (5, .getfield 10, 6, 0, 14), (8, .invokevirtual 126, 30, 2, 506), (11, .aload_n 0, 0, 0, 0), (12, .getfield 16, 6, 1, 15), (15, .getfield 132, 4, 0, 414), (18, .getfield 196, 5, 4, 503), (21, .iload_n 1, 0, 0, 0), (22, .iconst 0, 0, 0, 0), (23, .iastore, 0, 0, 0), (24, .iconst 0, 0, 0, 0), (25, .istore_n 2, 0, 0, 0), (26, .iconst 0, 0, 0, 0), (27, .istore_n 3, 0, 0, 0), (28, .iload_n 3, 0, 0, 0), (29, .aload_n 0, 0, 0, 0), (30, .getfield 10, 6, 0, 14), (33, .getfield 157, 4, 2, 504), (36, .getfield 199, 1, 10, 505), (39, .if_icmp .ge 48, 87, 0, 0), (42, .aload_n 0, 0, 0, 0), (43, .getfield 10, 6, 0, 14), (46, .getfield 157, 4, 2, 504), (49, .iload_n 3, 0, 0, 0), (50, .invokevirtual 206, 10, 2, 612), (53, .ifCond .eq 28, 81, 0, 0), (56, .aload_n 0, 0, 0, 0), (57, .getfield 10, 6, 0, 14), (60, .iload_n 3, 0, 0, 0), (61, .invokevirtual 218, 52, 2, 616), (64, .ifCond .ne 17, 81, 0, 0), (67, .aload_n 0, 0, 0, 0), (68, .getfield 16, 6, 1, 15), (71, .iload_n 3, 0, 0, 0), (72, .invokevirtual 218, 52, 2, 616), (75, .ifCond .eq 6, 81, 0, 0), (78, .iinc 2 1, 0, 0, 0), (81, .iinc 3 1, 0, 0, 0)]
def a_c92_1 : List (Nat × aR) := [(84, .goto (-56), 28, 0, 0), (87, .iload_n 2, 0, 0, 0), (88, .ireturn, 0, 0, 0)]
def a_c92 : List (Nat × aR) := a_c92_0 ++ (a_c92_1)
/-- X6 isOutside -/
def a_c93 : List (Nat × aR) := [(0, .iload_n 0, 0, 0, 0), (1, .iload_n 1, 0, 0, 0), (2, .if_icmp .lt 8, 10, 0, 0), (5, .iload_n 0, 0, 0, 0), (6, .iload_n 2, 0, 0, 0), (7, .if_icmp .le 7, 14, 0, 0), (10, .iconst 1, 0, 0, 0), (11, .goto 4, 15, 0, 0), (14, .iconst 0, 0, 0, 0), (15, .ireturn, 0, 0, 0)]
/-- X6 isNoPlace -/
def a_c94 : List (Nat × aR) := [(0, .iload_n 0, 0, 0, 0), (1, .iconst 0, 0, 0, 0), (2, .bipush 99, 0, 0, 0), (4, .invokestatic 122, 93, 3, 420), (7, .ifCond .ne 13, 20, 0, 0), (10, .iload_n 1, 0, 0, 0), (11, .iconst 0, 0, 0, 0), (12, .bipush 99, 0, 0, 0), (14, .invokestatic 122, 93, 3, 420), (17, .ifCond .eq 7, 24, 0, 0), (20, .iconst 1, 0, 0, 0), (21, .goto 4, 25, 0, 0), (24, .iconst 0, 0, 0, 0), (25, .ireturn, 0, 0, 0)]
/-- X6 isWithin -/
def a_c95 : List (Nat × aR) := [(0, .iload_n 0, 0, 0, 0), (1, .iload_n 0, 0, 0, 0), (2, .imul, 0, 0, 0), (3, .iload_n 1, 0, 0, 0), (4, .iload_n 1, 0, 0, 0), (5, .imul, 0, 0, 0), (6, .iadd, 0, 0, 0), (7, .iload_n 2, 0, 0, 0), (8, .iload_n 2, 0, 0, 0), (9, .imul, 0, 0, 0), (10, .if_icmp .gt 7, 17, 0, 0), (13, .iconst 1, 0, 0, 0), (14, .goto 4, 18, 0, 0), (17, .iconst 0, 0, 0, 0), (18, .ireturn, 0, 0, 0)]
/-- X6 copyRow -/
def a_c96 : List (Nat × aR) := [(0, .aload_n 0, 0, 0, 0), (1, .iconst 0, 0, 0, 0), (2, .aload_n 1, 0, 0, 0), (3, .iconst 0, 0, 0, 0), (4, .aload_n 0, 0, 0, 0), (5, .arraylength, 0, 0, 0), (6, .aload_n 1, 0, 0, 0), (7, .arraylength, 0, 0, 0), (8, .invokestatic 221, 1000, 0, 518), (11, .invokestatic 226, 1001, 0, 522), (14, .return_, 0, 0, 0)]
/-- L cell -/
def a_c97 : List (Nat × aR) := [(0, .iload_n 1, 0, 0, 0), (1, .aload_n 0, 0, 0, 0), (2, .arraylength, 0, 0, 0), (3, .if_icmp .ge 9, 12, 0, 0), (6, .aload_n 0, 0, 0, 0), (7, .iload_n 1, 0, 0, 0), (8, .iaload, 0, 0, 0), (9, .goto 9, 18, 0, 0), (12, .ldc 7, 40503, 0, 1116), (14, .iload_n 1, 0, 0, 0), (15, .iconst 3, 0, 0, 0), (16, .iadd, 0, 0, 0), (17, .imul, 0, 0, 0), (18, .ireturn, 0, 0, 0)]
/-- L low -/
def a_c98 : List (Nat × aR) := [(0, .iload_n 0, 0, 0, 0), (1, .ldc 8, 2147483647, 0, 4), (3, .iand, 0, 0, 0), (4, .iload_n 1, 0, 0, 0), (5, .irem, 0, 0, 0), (6, .ireturn, 0, 0, 0)]
/-- L reach -/
def a_c99 : List (Nat × aR) := [(0, .iload_n 0, 0, 0, 0), (1, .iconst 2, 0, 0, 0), (2, .if_icmp .ge 11, 13, 0, 0), (5, .iconst 1, 0, 0, 0), (6, .iconst 2, 0, 0, 0), (7, .iload_n 0, 0, 0, 0), (8, .imul, 0, 0, 0), (9, .iadd, 0, 0, 0), (10, .goto 15, 25, 0, 0), (13, .iload_n 0, 0, 0, 0), (14, .iconst 2, 0, 0, 0), (15, .if_icmp .ne 8, 23, 0, 0), (18, .bipush 6, 0, 0, 0), (20, .goto 5, 25, 0, 0), (23, .bipush 10, 0, 0, 0), (25, .ireturn, 0, 0, 0)]
/-- L radius -/
def a_c100 : List (Nat × aR) := [(0, .iload_n 0, 0, 0, 0), (1, .iconst 3, 0, 0, 0), (2, .if_icmp .ge 13, 15, 0, 0), (5, .iload_n 0, 0, 0, 0), (6, .iconst 2, 0, 0, 0), (7, .iadd, 0, 0, 0), (8, .iload_n 0, 0, 0, 0), (9, .iconst 2, 0, 0, 0), (10, .iadd, 0, 0, 0), (11, .imul, 0, 0, 0), (12, .goto 10, 22, 0, 0), (15, .bipush 14, 0, 0, 0), (17, .iload_n 0, 0, 0, 0), (18, .imul, 0, 0, 0), (19, .bipush 16, 0, 0, 0), (21, .isub, 0, 0, 0), (22, .ireturn, 0, 0, 0)]
/-- L near -/
def a_c101 : List (Nat × aR) := [(0, .iload_n 0, 0, 0, 0), (1, .iload_n 2, 0, 0, 0), (2, .if_icmp .le 9, 11, 0, 0), (5, .iload_n 0, 0, 0, 0), (6, .iload_n 2, 0, 0, 0), (7, .isub, 0, 0, 0), (8, .goto 6, 14, 0, 0), (11, .iload_n 2, 0, 0, 0), (12, .iload_n 0, 0, 0, 0), (13, .isub, 0, 0, 0), (14, .istore 5, 0, 0, 0), (16, .iload_n 1, 0, 0, 0), (17, .iload_n 3, 0, 0, 0), (18, .if_icmp .le 9, 27, 0, 0), (21, .iload_n 1, 0, 0, 0), (22, .iload_n 3, 0, 0, 0), (23, .isub, 0, 0, 0), (24, .goto 6, 30, 0, 0), (27, .iload_n 3, 0, 0, 0), (28, .iload_n 1, 0, 0, 0), (29, .isub, 0, 0, 0), (30, .istore 6, 0, 0, 0), (32, .iload 5, 0, 0, 0), (34, .iload 5, 0, 0, 0), (36, .imul, 0, 0, 0), (37, .iload 6, 0, 0, 0), (39, .iload 6, 0, 0, 0), (41, .imul, 0, 0, 0), (42, .iadd, 0, 0, 0), (43, .iload 4, 0, 0, 0), (45, .iload 4, 0, 0, 0), (47, .imul, 0, 0, 0), (48, .if_icmp .gt 7, 55, 0, 0), (51, .iconst 1, 0, 0, 0), (52, .goto 4, 56, 0, 0), (55, .iconst 0, 0, 0, 0), (56, .ireturn, 0, 0, 0)]
/-- L allowed -/
def a_c102_0 : List (Nat × aR) := [(0, .iconst 0, 0, 0, 0), (1, .istore 8, 0, 0, 0), (3, .iload 8, 0, 0, 0), (5, .aload_n 0, 0, 0, 0), (6, .iconst 1, 0, 0, 0), (7, .iaload, 0, 0, 0), (8, .if_icmp .ge 119, 127, 0, 0), (11, .iconst 5, 0, 0, 0), (12, .iload 8, 0, 0, 0), (14, .imul, 0, 0, 0), (15, .istore 9, 0, 0, 0), (17, .aload_n 1, 0, 0, 0), (18, .iload 9, 0, 0, 0), (20, .iconst 2, 0, 0, 0), (21, .iadd, 0, 0, 0), (22, .iaload, 0, 0, 0), (23, .iload_n 3, 0, 0, 0), (24, .if_icmp .ne 15, 39, 0, 0), (27, .aload_n 1, 0, 0, 0), (28, .iload 9, 0, 0, 0), (30, .iconst 3, 0, 0, 0), (31, .iadd, 0, 0, 0), (32, .iaload, 0, 0, 0), (33, .invokestatic 9, 100, 1, 401), (36, .goto 19, 55, 0, 0), (39, .aload_n 1, 0, 0, 0), (40, .iload 9, 0, 0, 0), (42, .iconst 3, 0, 0, 0), (43, .iadd, 0, 0, 0), (44, .iaload, 0, 0, 0), (45, .invokestatic 9, 100, 1, 401), (48, .aload_n 0, 0, 0, 0), (49, .iconst 5, 0, 0, 0), (50, .iaload, 0, 0, 0), (51, .imul, 0, 0, 0), (52, .bipush 100, 0, 0, 0), (54, .idiv, 0, 0, 0), (55, .istore 10, 0, 0, 0), (57, .aload_n 1, 0, 0, 0), (58, .iload 9, 0, 0, 0)]
def a_c102_1 : List (Nat × aR) := [(60, .iconst 4, 0, 0, 0), (61, .iadd, 0, 0, 0), (62, .iaload, 0, 0, 0), (63, .iconst 1, 0, 0, 0), (64, .if_icmp .ne 57, 121, 0, 0), (67, .aload_n 1, 0, 0, 0), (68, .iload 9, 0, 0, 0), (70, .iconst 2, 0, 0, 0), (71, .iadd, 0, 0, 0), (72, .iaload, 0, 0, 0), (73, .iload_n 3, 0, 0, 0), (74, .isub, 0, 0, 0), (75, .iconst 2, 0, 0, 0), (76, .if_icmp .ge 45, 121, 0, 0), (79, .iload_n 3, 0, 0, 0), (80, .aload_n 1, 0, 0, 0), (81, .iload 9, 0, 0, 0), (83, .iconst 2, 0, 0, 0), (84, .iadd, 0, 0, 0), (85, .iaload, 0, 0, 0), (86, .isub, 0, 0, 0), (87, .iconst 2, 0, 0, 0), (88, .if_icmp .ge 33, 121, 0, 0), (91, .iload 4, 0, 0, 0), (93, .iload 5, 0, 0, 0), (95, .aload_n 1, 0, 0, 0), (96, .iload 9, 0, 0, 0), (98, .iaload, 0, 0, 0), (99, .aload_n 1, 0, 0, 0), (100, .iload 9, 0, 0, 0), (102, .iconst 1, 0, 0, 0), (103, .iadd, 0, 0, 0), (104, .iaload, 0, 0, 0), (105, .iload 10, 0, 0, 0), (107, .iload 6, 0, 0, 0), (109, .invokestatic 15, 99, 1, 404), (112, .iadd, 0, 0, 0), (113, .invokestatic 18, 101, 5, 407), (116, .ifCond .eq 5, 121, 0, 0), (119, .iconst 0, 0, 0, 0)]
def a_c102_2 : List (Nat × aR) := [(120, .ireturn, 0, 0, 0), (121, .iinc 8 1, 0, 0, 0), (124, .goto (-121), 3, 0, 0), (127, .iconst 0, 0, 0, 0), (128, .istore 8, 0, 0, 0), (130, .iload 8, 0, 0, 0), (132, .aload_n 0, 0, 0, 0), (133, .iconst 2, 0, 0, 0), (134, .iaload, 0, 0, 0), (135, .if_icmp .ge 104, 239, 0, 0), (138, .bipush 7, 0, 0, 0), (140, .iload 8, 0, 0, 0), (142, .imul, 0, 0, 0), (143, .istore 9, 0, 0, 0), (145, .aload_n 2, 0, 0, 0), (146, .iload 9, 0, 0, 0), (148, .bipush 6, 0, 0, 0), (150, .iadd, 0, 0, 0), (151, .iaload, 0, 0, 0), (152, .ifCond .ne 29, 181, 0, 0), (155, .aload_n 2, 0, 0, 0), (156, .iload 9, 0, 0, 0), (158, .iconst 4, 0, 0, 0), (159, .iadd, 0, 0, 0), (160, .iaload, 0, 0, 0), (161, .iload 7, 0, 0, 0), (163, .if_icmp .gt 18, 181, 0, 0), (166, .iload 7, 0, 0, 0), (168, .aload_n 2, 0, 0, 0), (169, .iload 9, 0, 0, 0), (171, .iconst 5, 0, 0, 0), (172, .iadd, 0, 0, 0), (173, .iaload, 0, 0, 0), (174, .if_icmp .ge 7, 181, 0, 0), (177, .iconst 1, 0, 0, 0), (178, .goto 4, 182, 0, 0), (181, .iconst 0, 0, 0, 0), (182, .istore 10, 0, 0, 0), (184, .iload 10, 0, 0, 0), (186, .ifCond .eq 47, 233, 0, 0)]
def a_c102_3 : List (Nat × aR) := [(189, .aload_n 2, 0, 0, 0), (190, .iload 9, 0, 0, 0), (192, .iconst 3, 0, 0, 0), (193, .iadd, 0, 0, 0), (194, .iaload, 0, 0, 0), (195, .iload_n 3, 0, 0, 0), (196, .if_icmp .ne 37, 233, 0, 0), (199, .iload 4, 0, 0, 0), (201, .iload 5, 0, 0, 0), (203, .aload_n 2, 0, 0, 0), (204, .iload 9, 0, 0, 0), (206, .iaload, 0, 0, 0), (207, .aload_n 2, 0, 0, 0), (208, .iload 9, 0, 0, 0), (210, .iconst 1, 0, 0, 0), (211, .iadd, 0, 0, 0), (212, .iaload, 0, 0, 0), (213, .aload_n 2, 0, 0, 0), (214, .iload 9, 0, 0, 0), (216, .iconst 2, 0, 0, 0), (217, .iadd, 0, 0, 0), (218, .iaload, 0, 0, 0), (219, .iload 6, 0, 0, 0), (221, .invokestatic 15, 99, 1, 404), (224, .iadd, 0, 0, 0), (225, .invokestatic 18, 101, 5, 407), (228, .ifCond .eq 5, 233, 0, 0), (231, .iconst 0, 0, 0, 0), (232, .ireturn, 0, 0, 0), (233, .iinc 8 1, 0, 0, 0), (236, .goto (-106), 130, 0, 0), (239, .iconst 1, 0, 0, 0), (240, .ireturn, 0, 0, 0)]
def a_c102 : List (Nat × aR) := a_c102_0 ++ (a_c102_1 ++ (a_c102_2 ++ (a_c102_3)))
/-- L may -/
def a_c103 : List (Nat × aR) := [(0, .aload_n 0, 0, 0, 0), (1, .aload_n 1, 0, 0, 0), (2, .aload_n 2, 0, 0, 0), (3, .iload 5, 0, 0, 0), (5, .aload_n 3, 0, 0, 0), (6, .iconst 4, 0, 0, 0), (7, .iload 4, 0, 0, 0), (9, .imul, 0, 0, 0), (10, .iaload, 0, 0, 0), (11, .aload_n 3, 0, 0, 0), (12, .iconst 4, 0, 0, 0), (13, .iload 4, 0, 0, 0), (15, .imul, 0, 0, 0), (16, .iconst 1, 0, 0, 0), (17, .iadd, 0, 0, 0), (18, .iaload, 0, 0, 0), (19, .iload 6, 0, 0, 0), (21, .aload_n 0, 0, 0, 0), (22, .iconst 0, 0, 0, 0), (23, .iaload, 0, 0, 0), (24, .invokestatic 22, 102, 8, 322), (27, .ireturn, 0, 0, 0)]
/-- L offer -/
def a_c104_0 : List (Nat × aR) := [(0, .bipush (-6), 0, 0, 0), (2, .istore 7, 0, 0, 0), (4, .bipush 99, 0, 0, 0), (6, .istore 8, 0, 0, 0), (8, .bipush 7, 0, 0, 0), (10, .istore 9, 0, 0, 0), (12, .iload 9, 0, 0, 0), (14, .ifCond .lt 149, 163, 0, 0), (17, .iconst 0, 0, 0, 0), (18, .istore 10, 0, 0, 0), (20, .aload_n 0, 0, 0, 0), (21, .aload_n 1, 0, 0, 0), (22, .aload_n 2, 0, 0, 0), (23, .aload_n 3, 0, 0, 0), (24, .iload 5, 0, 0, 0), (26, .iload 9, 0, 0, 0), (28, .iload 6, 0, 0, 0), (30, .invokestatic 26, 103, 7, 319), (33, .istore 11, 0, 0, 0), (35, .iconst 0, 0, 0, 0), (36, .istore 12, 0, 0, 0), (38, .iload 12, 0, 0, 0), (40, .aload_n 0, 0, 0, 0), (41, .iconst 3, 0, 0, 0), (42, .iaload, 0, 0, 0), (43, .if_icmp .ge 94, 137, 0, 0), (46, .iload 12, 0, 0, 0), (48, .iload 5, 0, 0, 0), (50, .if_icmp .eq 81, 131, 0, 0), (53, .aload_n 3, 0, 0, 0), (54, .iconst 4, 0, 0, 0), (55, .iload 12, 0, 0, 0), (57, .imul, 0, 0, 0), (58, .iconst 3, 0, 0, 0), (59, .iadd, 0, 0, 0), (60, .iaload, 0, 0, 0), (61, .iload 9, 0, 0, 0), (63, .if_icmp .ne 68, 131, 0, 0), (66, .iinc 10 1, 0, 0, 0), (69, .iload 11, 0, 0, 0)]
def a_c104_1 : List (Nat × aR) := [(71, .ifCond .eq 57, 128, 0, 0), (74, .aload_n 3, 0, 0, 0), (75, .iconst 4, 0, 0, 0), (76, .iload 5, 0, 0, 0), (78, .imul, 0, 0, 0), (79, .iaload, 0, 0, 0), (80, .aload_n 3, 0, 0, 0), (81, .iconst 4, 0, 0, 0), (82, .iload 5, 0, 0, 0), (84, .imul, 0, 0, 0), (85, .iconst 1, 0, 0, 0), (86, .iadd, 0, 0, 0), (87, .iaload, 0, 0, 0), (88, .aload_n 3, 0, 0, 0), (89, .iconst 4, 0, 0, 0), (90, .iload 12, 0, 0, 0), (92, .imul, 0, 0, 0), (93, .iaload, 0, 0, 0), (94, .aload_n 3, 0, 0, 0), (95, .iconst 4, 0, 0, 0), (96, .iload 12, 0, 0, 0), (98, .imul, 0, 0, 0), (99, .iconst 1, 0, 0, 0), (100, .iadd, 0, 0, 0), (101, .iaload, 0, 0, 0), (102, .iload 6, 0, 0, 0), (104, .invokestatic 15, 99, 1, 404), (107, .aload 4, 0, 0, 0), (109, .iconst 3, 0, 0, 0), (110, .iload 12, 0, 0, 0), (112, .imul, 0, 0, 0), (113, .iaload, 0, 0, 0), (114, .invokestatic 15, 99, 1, 404), (117, .iadd, 0, 0, 0), (118, .invokestatic 18, 101, 5, 407), (121, .ifCond .ne 7, 128, 0, 0), (124, .iconst 1, 0, 0, 0), (125, .goto 4, 129, 0, 0), (128, .iconst 0, 0, 0, 0), (129, .istore 11, 0, 0, 0)]
def a_c104_2 : List (Nat × aR) := [(131, .iinc 12 1, 0, 0, 0), (134, .goto (-96), 38, 0, 0), (137, .iload 11, 0, 0, 0), (139, .ifCond .eq 18, 157, 0, 0), (142, .iload 10, 0, 0, 0), (144, .iload 8, 0, 0, 0), (146, .if_icmp .gt 11, 157, 0, 0), (149, .iload 9, 0, 0, 0), (151, .istore 7, 0, 0, 0), (153, .iload 10, 0, 0, 0), (155, .istore 8, 0, 0, 0), (157, .iinc 9 (-1), 0, 0, 0), (160, .goto (-148), 12, 0, 0), (163, .iload 7, 0, 0, 0), (165, .ireturn, 0, 0, 0)]
def a_c104 : List (Nat × aR) := a_c104_0 ++ (a_c104_1 ++ (a_c104_2))
/-- L review -/
def a_c105_0 : List (Nat × aR) := [(0, .iconst 0, 0, 0, 0), (1, .istore 5, 0, 0, 0), (3, .iload 5, 0, 0, 0), (5, .aload_n 0, 0, 0, 0), (6, .iconst 3, 0, 0, 0), (7, .iaload, 0, 0, 0), (8, .if_icmp .ge 92, 100, 0, 0), (11, .aload_n 3, 0, 0, 0), (12, .iconst 4, 0, 0, 0), (13, .iload 5, 0, 0, 0), (15, .imul, 0, 0, 0), (16, .iconst 3, 0, 0, 0), (17, .iadd, 0, 0, 0), (18, .iaload, 0, 0, 0), (19, .ifCond .lt 75, 94, 0, 0), (22, .aload_n 0, 0, 0, 0), (23, .aload_n 1, 0, 0, 0), (24, .aload_n 2, 0, 0, 0), (25, .aload_n 3, 0, 0, 0), (26, .iload 5, 0, 0, 0), (28, .aload_n 3, 0, 0, 0), (29, .iconst 4, 0, 0, 0), (30, .iload 5, 0, 0, 0), (32, .imul, 0, 0, 0), (33, .iconst 3, 0, 0, 0), (34, .iadd, 0, 0, 0), (35, .iaload, 0, 0, 0), (36, .aload 4, 0, 0, 0), (38, .iconst 3, 0, 0, 0), (39, .iload 5, 0, 0, 0), (41, .imul, 0, 0, 0), (42, .iaload, 0, 0, 0), (43, .invokestatic 26, 103, 7, 319), (46, .istore 6, 0, 0, 0), (48, .aload 4, 0, 0, 0), (50, .iconst 3, 0, 0, 0), (51, .iload 5, 0, 0, 0), (53, .imul, 0, 0, 0), (54, .iconst 2, 0, 0, 0), (55, .iadd, 0, 0, 0)]
def a_c105_1 : List (Nat × aR) := [(56, .iload 6, 0, 0, 0), (58, .ifCond .eq 8, 66, 0, 0), (61, .bipush (-6), 0, 0, 0), (63, .goto 30, 93, 0, 0), (66, .aload 4, 0, 0, 0), (68, .iconst 3, 0, 0, 0), (69, .iload 5, 0, 0, 0), (71, .imul, 0, 0, 0), (72, .iconst 2, 0, 0, 0), (73, .iadd, 0, 0, 0), (74, .iaload, 0, 0, 0), (75, .ifCond .ge 9, 84, 0, 0), (78, .aload_n 0, 0, 0, 0), (79, .iconst 0, 0, 0, 0), (80, .iaload, 0, 0, 0), (81, .goto 12, 93, 0, 0), (84, .aload 4, 0, 0, 0), (86, .iconst 3, 0, 0, 0), (87, .iload 5, 0, 0, 0), (89, .imul, 0, 0, 0), (90, .iconst 2, 0, 0, 0), (91, .iadd, 0, 0, 0), (92, .iaload, 0, 0, 0), (93, .iastore, 0, 0, 0), (94, .iinc 5 1, 0, 0, 0), (97, .goto (-94), 3, 0, 0), (100, .return_, 0, 0, 0)]
def a_c105 : List (Nat × aR) := a_c105_0 ++ (a_c105_1)
/-- L ends -/
def a_c106 : List (Nat × aR) := [(0, .aload_n 0, 0, 0, 0), (1, .iconst 4, 0, 0, 0), (2, .iload_n 2, 0, 0, 0), (3, .imul, 0, 0, 0), (4, .iconst 3, 0, 0, 0), (5, .iadd, 0, 0, 0), (6, .bipush (-6), 0, 0, 0), (8, .iastore, 0, 0, 0), (9, .iconst 0, 0, 0, 0), (10, .istore_n 3, 0, 0, 0), (11, .iload_n 3, 0, 0, 0), (12, .iconst 3, 0, 0, 0), (13, .if_icmp .ge 18, 31, 0, 0), (16, .aload_n 1, 0, 0, 0), (17, .iconst 3, 0, 0, 0), (18, .iload_n 2, 0, 0, 0), (19, .imul, 0, 0, 0), (20, .iload_n 3, 0, 0, 0), (21, .iadd, 0, 0, 0), (22, .bipush (-6), 0, 0, 0), (24, .iastore, 0, 0, 0), (25, .iinc 3 1, 0, 0, 0), (28, .goto (-17), 11, 0, 0), (31, .return_, 0, 0, 0)]
/-- L notices -/
def a_c107 : List (Nat × aR) := [(0, .iconst 0, 0, 0, 0), (1, .istore_n 2, 0, 0, 0), (2, .iconst 0, 0, 0, 0), (3, .istore_n 3, 0, 0, 0), (4, .iload_n 3, 0, 0, 0), (5, .aload_n 0, 0, 0, 0), (6, .iconst 3, 0, 0, 0), (7, .iaload, 0, 0, 0), (8, .if_icmp .ge 27, 35, 0, 0), (11, .iload_n 2, 0, 0, 0), (12, .aload_n 1, 0, 0, 0), (13, .iconst 3, 0, 0, 0), (14, .iload_n 3, 0, 0, 0), (15, .imul, 0, 0, 0), (16, .iconst 2, 0, 0, 0), (17, .iadd, 0, 0, 0), (18, .iaload, 0, 0, 0), (19, .ifCond .lt 7, 26, 0, 0), (22, .iconst 1, 0, 0, 0), (23, .goto 4, 27, 0, 0), (26, .iconst 0, 0, 0, 0), (27, .iadd, 0, 0, 0), (28, .istore_n 2, 0, 0, 0), (29, .iinc 3 1, 0, 0, 0), (32, .goto (-28), 4, 0, 0), (35, .iload_n 2, 0, 0, 0), (36, .ireturn, 0, 0, 0)]
/-- L leases -/
def a_c108 : List (Nat × aR) := [(0, .iconst 0, 0, 0, 0), (1, .istore_n 2, 0, 0, 0), (2, .iconst 0, 0, 0, 0), (3, .istore_n 3, 0, 0, 0), (4, .iload_n 3, 0, 0, 0), (5, .aload_n 0, 0, 0, 0), (6, .iconst 3, 0, 0, 0), (7, .iaload, 0, 0, 0), (8, .if_icmp .ge 27, 35, 0, 0), (11, .iload_n 2, 0, 0, 0), (12, .aload_n 1, 0, 0, 0), (13, .iconst 4, 0, 0, 0), (14, .iload_n 3, 0, 0, 0), (15, .imul, 0, 0, 0), (16, .iconst 3, 0, 0, 0), (17, .iadd, 0, 0, 0), (18, .iaload, 0, 0, 0), (19, .ifCond .lt 7, 26, 0, 0), (22, .iconst 1, 0, 0, 0), (23, .goto 4, 27, 0, 0), (26, .iconst 0, 0, 0, 0), (27, .iadd, 0, 0, 0), (28, .istore_n 2, 0, 0, 0), (29, .iinc 3 1, 0, 0, 0), (32, .goto (-28), 4, 0, 0), (35, .iload_n 2, 0, 0, 0), (36, .ireturn, 0, 0, 0)]
/-- L hour -/
def a_c109_0 : List (Nat × aR) := [(0, .aload_n 0, 0, 0, 0), (1, .iconst 0, 0, 0, 0), (2, .dup2, 0, 0, 0), (3, .iaload, 0, 0, 0), (4, .iconst 1, 0, 0, 0), (5, .iadd, 0, 0, 0), (6, .iastore, 0, 0, 0), (7, .iconst 0, 0, 0, 0), (8, .istore 6, 0, 0, 0), (10, .iconst 0, 0, 0, 0), (11, .istore 7, 0, 0, 0), (13, .iload 7, 0, 0, 0), (15, .aload_n 0, 0, 0, 0), (16, .iconst 3, 0, 0, 0), (17, .iaload, 0, 0, 0), (18, .if_icmp .ge 43, 61, 0, 0), (21, .aload_n 3, 0, 0, 0), (22, .iconst 4, 0, 0, 0), (23, .iload 7, 0, 0, 0), (25, .imul, 0, 0, 0), (26, .iconst 3, 0, 0, 0), (27, .iadd, 0, 0, 0), (28, .iaload, 0, 0, 0), (29, .ifCond .lt 26, 55, 0, 0), (32, .aload 4, 0, 0, 0), (34, .iconst 3, 0, 0, 0), (35, .iload 7, 0, 0, 0), (37, .imul, 0, 0, 0), (38, .iconst 1, 0, 0, 0), (39, .iadd, 0, 0, 0), (40, .iaload, 0, 0, 0), (41, .aload_n 0, 0, 0, 0), (42, .iconst 0, 0, 0, 0), (43, .iaload, 0, 0, 0), (44, .if_icmp .ne 11, 55, 0, 0), (47, .aload_n 3, 0, 0, 0), (48, .aload 4, 0, 0, 0), (50, .iload 7, 0, 0, 0), (52, .invokestatic 30, 106, 3, 1415), (55, .iinc 7 1, 0, 0, 0)]
def a_c109_1 : List (Nat × aR) := [(58, .goto (-45), 13, 0, 0), (61, .aload_n 0, 0, 0, 0), (62, .aload_n 1, 0, 0, 0), (63, .aload_n 2, 0, 0, 0), (64, .aload_n 3, 0, 0, 0), (65, .aload 4, 0, 0, 0), (67, .invokestatic 34, 105, 5, 1323), (70, .iconst 0, 0, 0, 0), (71, .istore 7, 0, 0, 0), (73, .iload 7, 0, 0, 0), (75, .aload_n 0, 0, 0, 0), (76, .iconst 3, 0, 0, 0), (77, .iaload, 0, 0, 0), (78, .if_icmp .ge 164, 242, 0, 0), (81, .aload_n 0, 0, 0, 0), (82, .iconst 0, 0, 0, 0), (83, .iaload, 0, 0, 0), (84, .iload 7, 0, 0, 0), (86, .iadd, 0, 0, 0), (87, .aload_n 0, 0, 0, 0), (88, .bipush 6, 0, 0, 0), (90, .iaload, 0, 0, 0), (91, .irem, 0, 0, 0), (92, .ifCond .ne 144, 236, 0, 0), (95, .aload 4, 0, 0, 0), (97, .iconst 3, 0, 0, 0), (98, .iload 7, 0, 0, 0), (100, .imul, 0, 0, 0), (101, .iconst 2, 0, 0, 0), (102, .iadd, 0, 0, 0), (103, .iaload, 0, 0, 0), (104, .ifCond .lt 132, 236, 0, 0), (107, .aload 4, 0, 0, 0), (109, .iconst 3, 0, 0, 0), (110, .iload 7, 0, 0, 0), (112, .imul, 0, 0, 0), (113, .iaload, 0, 0, 0), (114, .istore 8, 0, 0, 0), (116, .bipush (-6), 0, 0, 0), (118, .istore 9, 0, 0, 0)]
def a_c109_2 : List (Nat × aR) := [(120, .iload 8, 0, 0, 0), (122, .ifCond .lt 41, 163, 0, 0), (125, .iload 9, 0, 0, 0), (127, .ifCond .ge 36, 163, 0, 0), (130, .aload_n 0, 0, 0, 0), (131, .aload_n 1, 0, 0, 0), (132, .aload_n 2, 0, 0, 0), (133, .aload_n 3, 0, 0, 0), (134, .aload 4, 0, 0, 0), (136, .iload 7, 0, 0, 0), (138, .iload 8, 0, 0, 0), (140, .invokestatic 38, 104, 7, 1805), (143, .istore 9, 0, 0, 0), (145, .iload 8, 0, 0, 0), (147, .iload 9, 0, 0, 0), (149, .ifCond .ge 7, 156, 0, 0), (152, .iconst 1, 0, 0, 0), (153, .goto 4, 157, 0, 0), (156, .iconst 0, 0, 0, 0), (157, .isub, 0, 0, 0), (158, .istore 8, 0, 0, 0), (160, .goto (-40), 120, 0, 0), (163, .iload 9, 0, 0, 0), (165, .ifCond .lt 50, 215, 0, 0), (168, .aload_n 3, 0, 0, 0), (169, .iconst 4, 0, 0, 0), (170, .iload 7, 0, 0, 0), (172, .imul, 0, 0, 0), (173, .iconst 3, 0, 0, 0), (174, .iadd, 0, 0, 0), (175, .iload 9, 0, 0, 0), (177, .iastore, 0, 0, 0), (178, .aload 4, 0, 0, 0), (180, .iconst 3, 0, 0, 0), (181, .iload 7, 0, 0, 0), (183, .imul, 0, 0, 0), (184, .iload 8, 0, 0, 0), (186, .iastore, 0, 0, 0), (187, .aload 4, 0, 0, 0), (189, .iconst 3, 0, 0, 0)]
def a_c109_3 : List (Nat × aR) := [(190, .iload 7, 0, 0, 0), (192, .imul, 0, 0, 0), (193, .iconst 2, 0, 0, 0), (194, .iadd, 0, 0, 0), (195, .bipush (-6), 0, 0, 0), (197, .iastore, 0, 0, 0), (198, .aload 5, 0, 0, 0), (200, .iconst 3, 0, 0, 0), (201, .iload 7, 0, 0, 0), (203, .imul, 0, 0, 0), (204, .dup2, 0, 0, 0), (205, .iaload, 0, 0, 0), (206, .iconst 1, 0, 0, 0), (207, .iadd, 0, 0, 0), (208, .iastore, 0, 0, 0), (209, .iinc 6 1, 0, 0, 0), (212, .goto 24, 236, 0, 0), (215, .aload_n 3, 0, 0, 0), (216, .aload 4, 0, 0, 0), (218, .iload 7, 0, 0, 0), (220, .invokestatic 30, 106, 3, 1415), (223, .aload 5, 0, 0, 0), (225, .iconst 3, 0, 0, 0), (226, .iload 7, 0, 0, 0), (228, .imul, 0, 0, 0), (229, .iconst 1, 0, 0, 0), (230, .iadd, 0, 0, 0), (231, .dup2, 0, 0, 0), (232, .iaload, 0, 0, 0), (233, .iconst 1, 0, 0, 0), (234, .iadd, 0, 0, 0), (235, .iastore, 0, 0, 0), (236, .iinc 7 1, 0, 0, 0), (239, .goto (-166), 73, 0, 0), (242, .iconst 0, 0, 0, 0), (243, .istore 7, 0, 0, 0), (245, .iload 7, 0, 0, 0), (247, .aload_n 0, 0, 0, 0), (248, .iconst 3, 0, 0, 0), (249, .iaload, 0, 0, 0)]
def a_c109_4 : List (Nat × aR) := [(250, .if_icmp .ge 62, 312, 0, 0), (253, .aload 4, 0, 0, 0), (255, .iconst 3, 0, 0, 0), (256, .iload 7, 0, 0, 0), (258, .imul, 0, 0, 0), (259, .iconst 2, 0, 0, 0), (260, .iadd, 0, 0, 0), (261, .iaload, 0, 0, 0), (262, .ifCond .lt 44, 306, 0, 0), (265, .aload_n 0, 0, 0, 0), (266, .iconst 0, 0, 0, 0), (267, .iaload, 0, 0, 0), (268, .aload 4, 0, 0, 0), (270, .iconst 3, 0, 0, 0), (271, .iload 7, 0, 0, 0), (273, .imul, 0, 0, 0), (274, .iconst 2, 0, 0, 0), (275, .iadd, 0, 0, 0), (276, .iaload, 0, 0, 0), (277, .isub, 0, 0, 0), (278, .aload_n 0, 0, 0, 0), (279, .bipush 7, 0, 0, 0), (281, .iaload, 0, 0, 0), (282, .if_icmp .lt 24, 306, 0, 0), (285, .aload_n 3, 0, 0, 0), (286, .aload 4, 0, 0, 0), (288, .iload 7, 0, 0, 0), (290, .invokestatic 30, 106, 3, 1415), (293, .aload 5, 0, 0, 0), (295, .iconst 3, 0, 0, 0), (296, .iload 7, 0, 0, 0), (298, .imul, 0, 0, 0), (299, .iconst 2, 0, 0, 0), (300, .iadd, 0, 0, 0), (301, .dup2, 0, 0, 0), (302, .iaload, 0, 0, 0), (303, .iconst 1, 0, 0, 0), (304, .iadd, 0, 0, 0), (305, .iastore, 0, 0, 0), (306, .iinc 7 1, 0, 0, 0)]
def a_c109_5 : List (Nat × aR) := [(309, .goto (-64), 245, 0, 0), (312, .iload 6, 0, 0, 0), (314, .ireturn, 0, 0, 0)]
def a_c109 : List (Nat × aR) := a_c109_0 ++ (a_c109_1 ++ (a_c109_2 ++ (a_c109_3 ++ (a_c109_4 ++ (a_c109_5)))))
/-- L adds -/
def a_c110_0 : List (Nat × aR) := [(0, .iload 7, 0, 0, 0), (2, .bipush 60, 0, 0, 0), (4, .irem, 0, 0, 0), (5, .istore 9, 0, 0, 0), (7, .iload 7, 0, 0, 0), (9, .bipush 60, 0, 0, 0), (11, .idiv, 0, 0, 0), (12, .bipush 60, 0, 0, 0), (14, .irem, 0, 0, 0), (15, .istore 10, 0, 0, 0), (17, .iload 7, 0, 0, 0), (19, .sipush 3600, 0, 0, 0), (22, .idiv, 0, 0, 0), (23, .bipush 8, 0, 0, 0), (25, .irem, 0, 0, 0), (26, .istore 11, 0, 0, 0), (28, .iload 8, 0, 0, 0), (30, .ifCond .ne 120, 150, 0, 0), (33, .aload_n 1, 0, 0, 0), (34, .iconst 1, 0, 0, 0), (35, .iaload, 0, 0, 0), (36, .bipush 8, 0, 0, 0), (38, .if_icmp .ne 25, 63, 0, 0), (41, .aload_n 0, 0, 0, 0), (42, .iload 9, 0, 0, 0), (44, .iload 10, 0, 0, 0), (46, .iload 11, 0, 0, 0), (48, .iconst 0, 0, 0, 0), (49, .invokevirtual 42, 60, 5, 1203), (52, .bipush (-4), 0, 0, 0), (54, .if_icmp .ne 7, 61, 0, 0), (57, .iconst 1, 0, 0, 0), (58, .goto 4, 62, 0, 0), (61, .iconst 0, 0, 0, 0), (62, .ireturn, 0, 0, 0), (63, .iconst 5, 0, 0, 0), (64, .aload_n 1, 0, 0, 0), (65, .iconst 1, 0, 0, 0), (66, .iaload, 0, 0, 0), (67, .imul, 0, 0, 0)]
def a_c110_1 : List (Nat × aR) := [(68, .istore 12, 0, 0, 0), (70, .aload_n 2, 0, 0, 0), (71, .iload 12, 0, 0, 0), (73, .iload 9, 0, 0, 0), (75, .iastore, 0, 0, 0), (76, .aload_n 2, 0, 0, 0), (77, .iload 12, 0, 0, 0), (79, .iconst 1, 0, 0, 0), (80, .iadd, 0, 0, 0), (81, .iload 10, 0, 0, 0), (83, .iastore, 0, 0, 0), (84, .aload_n 2, 0, 0, 0), (85, .iload 12, 0, 0, 0), (87, .iconst 2, 0, 0, 0), (88, .iadd, 0, 0, 0), (89, .iload 11, 0, 0, 0), (91, .iastore, 0, 0, 0), (92, .aload_n 2, 0, 0, 0), (93, .iload 12, 0, 0, 0), (95, .iconst 3, 0, 0, 0), (96, .iadd, 0, 0, 0), (97, .iload 7, 0, 0, 0), (99, .sipush 28800, 0, 0, 0), (102, .idiv, 0, 0, 0), (103, .iconst 5, 0, 0, 0), (104, .irem, 0, 0, 0), (105, .iastore, 0, 0, 0), (106, .aload_n 2, 0, 0, 0), (107, .iload 12, 0, 0, 0), (109, .iconst 4, 0, 0, 0), (110, .iadd, 0, 0, 0), (111, .iconst 0, 0, 0, 0), (112, .iastore, 0, 0, 0), (113, .aload_n 1, 0, 0, 0), (114, .iconst 1, 0, 0, 0), (115, .dup2, 0, 0, 0), (116, .iaload, 0, 0, 0), (117, .iconst 1, 0, 0, 0), (118, .iadd, 0, 0, 0), (119, .iastore, 0, 0, 0)]
def a_c110_2 : List (Nat × aR) := [(120, .aload_n 0, 0, 0, 0), (121, .iload 9, 0, 0, 0), (123, .iload 10, 0, 0, 0), (125, .iload 11, 0, 0, 0), (127, .aload_n 2, 0, 0, 0), (128, .iload 12, 0, 0, 0), (130, .iconst 3, 0, 0, 0), (131, .iadd, 0, 0, 0), (132, .iaload, 0, 0, 0), (133, .invokevirtual 42, 60, 5, 1203), (136, .aload_n 1, 0, 0, 0), (137, .iconst 1, 0, 0, 0), (138, .iaload, 0, 0, 0), (139, .iconst 1, 0, 0, 0), (140, .isub, 0, 0, 0), (141, .if_icmp .ne 7, 148, 0, 0), (144, .iconst 1, 0, 0, 0), (145, .goto 4, 149, 0, 0), (148, .iconst 0, 0, 0, 0), (149, .ireturn, 0, 0, 0), (150, .iload 8, 0, 0, 0), (152, .iconst 1, 0, 0, 0), (153, .if_icmp .ne 187, 340, 0, 0), (156, .aload_n 1, 0, 0, 0), (157, .iconst 0, 0, 0, 0), (158, .iaload, 0, 0, 0), (159, .iload 7, 0, 0, 0), (161, .sipush 28800, 0, 0, 0), (164, .idiv, 0, 0, 0), (165, .bipush 6, 0, 0, 0), (167, .irem, 0, 0, 0), (168, .iadd, 0, 0, 0), (169, .istore 12, 0, 0, 0), (171, .iload 12, 0, 0, 0), (173, .iconst 1, 0, 0, 0), (174, .iadd, 0, 0, 0), (175, .iload 7, 0, 0, 0), (177, .bipush 7, 0, 0, 0), (179, .idiv, 0, 0, 0), (180, .bipush 9, 0, 0, 0)]
def a_c110_3 : List (Nat × aR) := [(182, .irem, 0, 0, 0), (183, .iadd, 0, 0, 0), (184, .istore 13, 0, 0, 0), (186, .aload_n 1, 0, 0, 0), (187, .iconst 2, 0, 0, 0), (188, .iaload, 0, 0, 0), (189, .bipush 8, 0, 0, 0), (191, .if_icmp .ne 29, 220, 0, 0), (194, .aload_n 0, 0, 0, 0), (195, .iload 9, 0, 0, 0), (197, .iload 10, 0, 0, 0), (199, .iconst 3, 0, 0, 0), (200, .iload 11, 0, 0, 0), (202, .iload 12, 0, 0, 0), (204, .iload 13, 0, 0, 0), (206, .invokevirtual 48, 61, 7, 1304), (209, .bipush (-4), 0, 0, 0), (211, .if_icmp .ne 7, 218, 0, 0), (214, .iconst 1, 0, 0, 0), (215, .goto 4, 219, 0, 0), (218, .iconst 0, 0, 0, 0), (219, .ireturn, 0, 0, 0), (220, .bipush 7, 0, 0, 0), (222, .aload_n 1, 0, 0, 0), (223, .iconst 2, 0, 0, 0), (224, .iaload, 0, 0, 0), (225, .imul, 0, 0, 0), (226, .istore 14, 0, 0, 0), (228, .aload_n 3, 0, 0, 0), (229, .iload 14, 0, 0, 0), (231, .iload 9, 0, 0, 0), (233, .iastore, 0, 0, 0), (234, .aload_n 3, 0, 0, 0), (235, .iload 14, 0, 0, 0), (237, .iconst 1, 0, 0, 0), (238, .iadd, 0, 0, 0), (239, .iload 10, 0, 0, 0), (241, .iastore, 0, 0, 0), (242, .aload_n 3, 0, 0, 0), (243, .iload 14, 0, 0, 0)]
def a_c110_4 : List (Nat × aR) := [(245, .iconst 2, 0, 0, 0), (246, .iadd, 0, 0, 0), (247, .iconst 1, 0, 0, 0), (248, .iload 7, 0, 0, 0), (250, .iconst 5, 0, 0, 0), (251, .idiv, 0, 0, 0), (252, .bipush 30, 0, 0, 0), (254, .irem, 0, 0, 0), (255, .iadd, 0, 0, 0), (256, .iastore, 0, 0, 0), (257, .aload_n 3, 0, 0, 0), (258, .iload 14, 0, 0, 0), (260, .iconst 3, 0, 0, 0), (261, .iadd, 0, 0, 0), (262, .iload 11, 0, 0, 0), (264, .iastore, 0, 0, 0), (265, .aload_n 3, 0, 0, 0), (266, .iload 14, 0, 0, 0), (268, .iconst 4, 0, 0, 0), (269, .iadd, 0, 0, 0), (270, .iload 12, 0, 0, 0), (272, .iastore, 0, 0, 0), (273, .aload_n 3, 0, 0, 0), (274, .iload 14, 0, 0, 0), (276, .iconst 5, 0, 0, 0), (277, .iadd, 0, 0, 0), (278, .iload 13, 0, 0, 0), (280, .iastore, 0, 0, 0), (281, .aload_n 3, 0, 0, 0), (282, .iload 14, 0, 0, 0), (284, .bipush 6, 0, 0, 0), (286, .iadd, 0, 0, 0), (287, .iconst 0, 0, 0, 0), (288, .iastore, 0, 0, 0), (289, .aload_n 1, 0, 0, 0), (290, .iconst 2, 0, 0, 0), (291, .dup2, 0, 0, 0), (292, .iaload, 0, 0, 0), (293, .iconst 1, 0, 0, 0), (294, .iadd, 0, 0, 0)]
def a_c110_5 : List (Nat × aR) := [(295, .iastore, 0, 0, 0), (296, .aload_n 1, 0, 0, 0), (297, .aload_n 2, 0, 0, 0), (298, .aload_n 3, 0, 0, 0), (299, .aload 4, 0, 0, 0), (301, .aload 5, 0, 0, 0), (303, .invokestatic 34, 105, 5, 1323), (306, .aload_n 0, 0, 0, 0), (307, .iload 9, 0, 0, 0), (309, .iload 10, 0, 0, 0), (311, .aload_n 3, 0, 0, 0), (312, .iload 14, 0, 0, 0), (314, .iconst 2, 0, 0, 0), (315, .iadd, 0, 0, 0), (316, .iaload, 0, 0, 0), (317, .iload 11, 0, 0, 0), (319, .iload 12, 0, 0, 0), (321, .iload 13, 0, 0, 0), (323, .invokevirtual 48, 61, 7, 1304), (326, .aload_n 1, 0, 0, 0), (327, .iconst 2, 0, 0, 0), (328, .iaload, 0, 0, 0), (329, .iconst 1, 0, 0, 0), (330, .isub, 0, 0, 0), (331, .if_icmp .ne 7, 338, 0, 0), (334, .iconst 1, 0, 0, 0), (335, .goto 4, 339, 0, 0), (338, .iconst 0, 0, 0, 0), (339, .ireturn, 0, 0, 0), (340, .aload_n 1, 0, 0, 0), (341, .iconst 3, 0, 0, 0), (342, .iaload, 0, 0, 0), (343, .bipush 16, 0, 0, 0), (345, .if_icmp .ne 23, 368, 0, 0), (348, .aload_n 0, 0, 0, 0), (349, .iload 9, 0, 0, 0), (351, .iload 10, 0, 0, 0), (353, .iconst 0, 0, 0, 0), (354, .invokevirtual 52, 62, 4, 1402), (357, .bipush (-4), 0, 0, 0)]
def a_c110_6 : List (Nat × aR) := [(359, .if_icmp .ne 7, 366, 0, 0), (362, .iconst 1, 0, 0, 0), (363, .goto 4, 367, 0, 0), (366, .iconst 0, 0, 0, 0), (367, .ireturn, 0, 0, 0), (368, .aload 4, 0, 0, 0), (370, .iconst 4, 0, 0, 0), (371, .aload_n 1, 0, 0, 0), (372, .iconst 3, 0, 0, 0), (373, .iaload, 0, 0, 0), (374, .imul, 0, 0, 0), (375, .iload 9, 0, 0, 0), (377, .iastore, 0, 0, 0), (378, .aload 4, 0, 0, 0), (380, .iconst 4, 0, 0, 0), (381, .aload_n 1, 0, 0, 0), (382, .iconst 3, 0, 0, 0), (383, .iaload, 0, 0, 0), (384, .imul, 0, 0, 0), (385, .iconst 1, 0, 0, 0), (386, .iadd, 0, 0, 0), (387, .iload 10, 0, 0, 0), (389, .iastore, 0, 0, 0), (390, .aload 4, 0, 0, 0), (392, .iconst 4, 0, 0, 0), (393, .aload_n 1, 0, 0, 0), (394, .iconst 3, 0, 0, 0), (395, .iaload, 0, 0, 0), (396, .imul, 0, 0, 0), (397, .iconst 2, 0, 0, 0), (398, .iadd, 0, 0, 0), (399, .iload 7, 0, 0, 0), (401, .sipush 3600, 0, 0, 0), (404, .idiv, 0, 0, 0), (405, .iconst 4, 0, 0, 0), (406, .irem, 0, 0, 0), (407, .iastore, 0, 0, 0), (408, .aload 4, 0, 0, 0), (410, .aload 5, 0, 0, 0), (412, .aload_n 1, 0, 0, 0)]
def a_c110_7 : List (Nat × aR) := [(413, .iconst 3, 0, 0, 0), (414, .iaload, 0, 0, 0), (415, .invokestatic 30, 106, 3, 1415), (418, .aload_n 1, 0, 0, 0), (419, .iconst 3, 0, 0, 0), (420, .dup2, 0, 0, 0), (421, .iaload, 0, 0, 0), (422, .iconst 1, 0, 0, 0), (423, .iadd, 0, 0, 0), (424, .iastore, 0, 0, 0), (425, .aload_n 0, 0, 0, 0), (426, .iload 9, 0, 0, 0), (428, .iload 10, 0, 0, 0), (430, .iload 7, 0, 0, 0), (432, .sipush 3600, 0, 0, 0), (435, .idiv, 0, 0, 0), (436, .iconst 4, 0, 0, 0), (437, .irem, 0, 0, 0), (438, .invokevirtual 52, 62, 4, 1402), (441, .aload_n 1, 0, 0, 0), (442, .iconst 3, 0, 0, 0), (443, .iaload, 0, 0, 0), (444, .iconst 1, 0, 0, 0), (445, .isub, 0, 0, 0), (446, .if_icmp .ne 7, 453, 0, 0), (449, .iconst 1, 0, 0, 0), (450, .goto 4, 454, 0, 0), (453, .iconst 0, 0, 0, 0), (454, .ireturn, 0, 0, 0)]
def a_c110 : List (Nat × aR) := a_c110_0 ++ (a_c110_1 ++ (a_c110_2 ++ (a_c110_3 ++ (a_c110_4 ++ (a_c110_5 ++ (a_c110_6 ++ (a_c110_7)))))))
/-- L turns -/
def a_c111_0 : List (Nat × aR) := [(0, .iload 7, 0, 0, 0), (2, .ifCond .ne 140, 142, 0, 0), (5, .iload 6, 0, 0, 0), (7, .bipush 9, 0, 0, 0), (9, .irem, 0, 0, 0), (10, .istore 8, 0, 0, 0), (12, .iload 6, 0, 0, 0), (14, .bipush 9, 0, 0, 0), (16, .idiv, 0, 0, 0), (17, .iconst 2, 0, 0, 0), (18, .irem, 0, 0, 0), (19, .istore 9, 0, 0, 0), (21, .iload 8, 0, 0, 0), (23, .aload_n 1, 0, 0, 0), (24, .iconst 1, 0, 0, 0), (25, .iaload, 0, 0, 0), (26, .if_icmp .ge 16, 42, 0, 0), (29, .aload_n 2, 0, 0, 0), (30, .iconst 5, 0, 0, 0), (31, .iload 8, 0, 0, 0), (33, .imul, 0, 0, 0), (34, .iconst 4, 0, 0, 0), (35, .iadd, 0, 0, 0), (36, .iaload, 0, 0, 0), (37, .iload 9, 0, 0, 0), (39, .if_icmp .ne 47, 86, 0, 0), (42, .iload 9, 0, 0, 0), (44, .iconst 1, 0, 0, 0), (45, .if_icmp .ne 12, 57, 0, 0), (48, .aload_n 0, 0, 0, 0), (49, .iload 8, 0, 0, 0), (51, .invokevirtual 56, 64, 2, 1421), (54, .goto 9, 63, 0, 0), (57, .aload_n 0, 0, 0, 0), (58, .iload 8, 0, 0, 0), (60, .invokevirtual 59, 65, 2, 1506), (63, .iload 8, 0, 0, 0), (65, .aload_n 1, 0, 0, 0), (66, .iconst 1, 0, 0, 0), (67, .iaload, 0, 0, 0)]
def a_c111_1 : List (Nat × aR) := [(68, .if_icmp .lt 7, 75, 0, 0), (71, .iconst (-1), 0, 0, 0), (72, .goto 5, 77, 0, 0), (75, .bipush (-3), 0, 0, 0), (77, .if_icmp .ne 7, 84, 0, 0), (80, .iconst 1, 0, 0, 0), (81, .goto 4, 85, 0, 0), (84, .iconst 0, 0, 0, 0), (85, .ireturn, 0, 0, 0), (86, .aload_n 2, 0, 0, 0), (87, .iconst 5, 0, 0, 0), (88, .iload 8, 0, 0, 0), (90, .imul, 0, 0, 0), (91, .iconst 4, 0, 0, 0), (92, .iadd, 0, 0, 0), (93, .iload 9, 0, 0, 0), (95, .iastore, 0, 0, 0), (96, .aload_n 1, 0, 0, 0), (97, .aload_n 2, 0, 0, 0), (98, .aload_n 3, 0, 0, 0), (99, .aload 4, 0, 0, 0), (101, .aload 5, 0, 0, 0), (103, .invokestatic 34, 105, 5, 1323), (106, .iload 9, 0, 0, 0), (108, .iconst 1, 0, 0, 0), (109, .if_icmp .ne 12, 121, 0, 0), (112, .aload_n 0, 0, 0, 0), (113, .iload 8, 0, 0, 0), (115, .invokevirtual 56, 64, 2, 1421), (118, .goto 9, 127, 0, 0), (121, .aload_n 0, 0, 0, 0), (122, .iload 8, 0, 0, 0), (124, .invokevirtual 59, 65, 2, 1506), (127, .aload_n 1, 0, 0, 0), (128, .aload 5, 0, 0, 0), (130, .invokestatic 62, 107, 2, 1110), (133, .if_icmp .ne 7, 140, 0, 0), (136, .iconst 1, 0, 0, 0), (137, .goto 4, 141, 0, 0), (140, .iconst 0, 0, 0, 0)]
def a_c111_2 : List (Nat × aR) := [(141, .ireturn, 0, 0, 0), (142, .iload 7, 0, 0, 0), (144, .iconst 1, 0, 0, 0), (145, .if_icmp .ne 118, 263, 0, 0), (148, .iload 6, 0, 0, 0), (150, .bipush 8, 0, 0, 0), (152, .irem, 0, 0, 0), (153, .istore 8, 0, 0, 0), (155, .iload 8, 0, 0, 0), (157, .aload_n 1, 0, 0, 0), (158, .iconst 2, 0, 0, 0), (159, .iaload, 0, 0, 0), (160, .if_icmp .ge 32, 192, 0, 0), (163, .aload_n 3, 0, 0, 0), (164, .bipush 7, 0, 0, 0), (166, .iload 8, 0, 0, 0), (168, .imul, 0, 0, 0), (169, .bipush 6, 0, 0, 0), (171, .iadd, 0, 0, 0), (172, .iaload, 0, 0, 0), (173, .iconst 1, 0, 0, 0), (174, .if_icmp .eq 18, 192, 0, 0), (177, .aload_n 3, 0, 0, 0), (178, .bipush 7, 0, 0, 0), (180, .iload 8, 0, 0, 0), (182, .imul, 0, 0, 0), (183, .iconst 5, 0, 0, 0), (184, .iadd, 0, 0, 0), (185, .iaload, 0, 0, 0), (186, .aload_n 1, 0, 0, 0), (187, .iconst 0, 0, 0, 0), (188, .iaload, 0, 0, 0), (189, .if_icmp .gt 32, 221, 0, 0), (192, .aload_n 0, 0, 0, 0), (193, .iload 8, 0, 0, 0), (195, .invokevirtual 66, 66, 2, 1510), (198, .iload 8, 0, 0, 0), (200, .aload_n 1, 0, 0, 0), (201, .iconst 2, 0, 0, 0), (202, .iaload, 0, 0, 0)]
def a_c111_3 : List (Nat × aR) := [(203, .if_icmp .lt 7, 210, 0, 0), (206, .iconst (-1), 0, 0, 0), (207, .goto 5, 212, 0, 0), (210, .bipush (-3), 0, 0, 0), (212, .if_icmp .ne 7, 219, 0, 0), (215, .iconst 1, 0, 0, 0), (216, .goto 4, 220, 0, 0), (219, .iconst 0, 0, 0, 0), (220, .ireturn, 0, 0, 0), (221, .aload_n 3, 0, 0, 0), (222, .bipush 7, 0, 0, 0), (224, .iload 8, 0, 0, 0), (226, .imul, 0, 0, 0), (227, .bipush 6, 0, 0, 0), (229, .iadd, 0, 0, 0), (230, .iconst 1, 0, 0, 0), (231, .iastore, 0, 0, 0), (232, .aload_n 1, 0, 0, 0), (233, .aload_n 2, 0, 0, 0), (234, .aload_n 3, 0, 0, 0), (235, .aload 4, 0, 0, 0), (237, .aload 5, 0, 0, 0), (239, .invokestatic 34, 105, 5, 1323), (242, .aload_n 0, 0, 0, 0), (243, .iload 8, 0, 0, 0), (245, .invokevirtual 66, 66, 2, 1510), (248, .aload_n 1, 0, 0, 0), (249, .aload 5, 0, 0, 0), (251, .invokestatic 62, 107, 2, 1110), (254, .if_icmp .ne 7, 261, 0, 0), (257, .iconst 1, 0, 0, 0), (258, .goto 4, 262, 0, 0), (261, .iconst 0, 0, 0, 0), (262, .ireturn, 0, 0, 0), (263, .iload 6, 0, 0, 0), (265, .iconst 3, 0, 0, 0), (266, .irem, 0, 0, 0), (267, .istore 8, 0, 0, 0), (269, .aload_n 1, 0, 0, 0), (270, .iconst 5, 0, 0, 0)]
def a_c111_4 : List (Nat × aR) := [(271, .iload 8, 0, 0, 0), (273, .iadd, 0, 0, 0), (274, .iaload, 0, 0, 0), (275, .istore 9, 0, 0, 0), (277, .aload_n 1, 0, 0, 0), (278, .iconst 5, 0, 0, 0), (279, .iload 8, 0, 0, 0), (281, .iadd, 0, 0, 0), (282, .iload 8, 0, 0, 0), (284, .ifCond .ne 13, 297, 0, 0), (287, .iload 6, 0, 0, 0), (289, .iconst 3, 0, 0, 0), (290, .idiv, 0, 0, 0), (291, .bipush 101, 0, 0, 0), (293, .irem, 0, 0, 0), (294, .goto 28, 322, 0, 0), (297, .iload 8, 0, 0, 0), (299, .iconst 1, 0, 0, 0), (300, .if_icmp .ne 15, 315, 0, 0), (303, .iconst 1, 0, 0, 0), (304, .iload 6, 0, 0, 0), (306, .iconst 3, 0, 0, 0), (307, .idiv, 0, 0, 0), (308, .bipush 12, 0, 0, 0), (310, .irem, 0, 0, 0), (311, .iadd, 0, 0, 0), (312, .goto 10, 322, 0, 0), (315, .iload 6, 0, 0, 0), (317, .iconst 3, 0, 0, 0), (318, .idiv, 0, 0, 0), (319, .bipush 6, 0, 0, 0), (321, .irem, 0, 0, 0), (322, .iastore, 0, 0, 0), (323, .aload_n 1, 0, 0, 0), (324, .aload_n 2, 0, 0, 0), (325, .aload_n 3, 0, 0, 0), (326, .aload 4, 0, 0, 0), (328, .aload 5, 0, 0, 0), (330, .invokestatic 34, 105, 5, 1323), (333, .aload_n 0, 0, 0, 0)]
def a_c111_5 : List (Nat × aR) := [(334, .iload 8, 0, 0, 0), (336, .aload_n 1, 0, 0, 0), (337, .iconst 5, 0, 0, 0), (338, .iload 8, 0, 0, 0), (340, .iadd, 0, 0, 0), (341, .iaload, 0, 0, 0), (342, .invokevirtual 69, 63, 3, 1519), (345, .iload 9, 0, 0, 0), (347, .if_icmp .ne 7, 354, 0, 0), (350, .iconst 1, 0, 0, 0), (351, .goto 4, 355, 0, 0), (354, .iconst 0, 0, 0, 0), (355, .ireturn, 0, 0, 0)]
def a_c111 : List (Nat × aR) := a_c111_0 ++ (a_c111_1 ++ (a_c111_2 ++ (a_c111_3 ++ (a_c111_4 ++ (a_c111_5)))))
/-- L leased -/
def a_c112_0 : List (Nat × aR) := [(0, .iload 6, 0, 0, 0), (2, .aload_n 1, 0, 0, 0), (3, .iconst 3, 0, 0, 0), (4, .iaload, 0, 0, 0), (5, .irem, 0, 0, 0), (6, .istore 8, 0, 0, 0), (8, .iconst 1, 0, 0, 0), (9, .iload 6, 0, 0, 0), (11, .bipush 16, 0, 0, 0), (13, .idiv, 0, 0, 0), (14, .iload 6, 0, 0, 0), (16, .iconst 5, 0, 0, 0), (17, .irem, 0, 0, 0), (18, .ifCond .ne 8, 26, 0, 0), (21, .bipush 99, 0, 0, 0), (23, .goto 5, 28, 0, 0), (26, .bipush 20, 0, 0, 0), (28, .irem, 0, 0, 0), (29, .iadd, 0, 0, 0), (30, .istore 9, 0, 0, 0), (32, .iload 7, 0, 0, 0), (34, .iconst 5, 0, 0, 0), (35, .if_icmp .ge 227, 262, 0, 0), (38, .iload 6, 0, 0, 0), (40, .sipush 320, 0, 0, 0), (43, .idiv, 0, 0, 0), (44, .iconst 4, 0, 0, 0), (45, .irem, 0, 0, 0), (46, .istore 10, 0, 0, 0), (48, .iconst 0, 0, 0, 0), (49, .istore 11, 0, 0, 0), (51, .iconst 0, 0, 0, 0), (52, .istore 12, 0, 0, 0), (54, .iload 12, 0, 0, 0), (56, .bipush 8, 0, 0, 0), (58, .if_icmp .ge 38, 96, 0, 0), (61, .iload 11, 0, 0, 0), (63, .ifCond .ne 20, 83, 0, 0), (66, .aload_n 1, 0, 0, 0), (67, .aload_n 2, 0, 0, 0)]
def a_c112_1 : List (Nat × aR) := [(68, .aload_n 3, 0, 0, 0), (69, .aload 4, 0, 0, 0), (71, .iload 8, 0, 0, 0), (73, .iload 12, 0, 0, 0), (75, .iload 10, 0, 0, 0), (77, .invokestatic 26, 103, 7, 319), (80, .ifCond .eq 7, 87, 0, 0), (83, .iconst 1, 0, 0, 0), (84, .goto 4, 88, 0, 0), (87, .iconst 0, 0, 0, 0), (88, .istore 11, 0, 0, 0), (90, .iinc 12 1, 0, 0, 0), (93, .goto (-39), 54, 0, 0), (96, .aload_n 1, 0, 0, 0), (97, .aload_n 2, 0, 0, 0), (98, .aload_n 3, 0, 0, 0), (99, .aload 4, 0, 0, 0), (101, .aload 5, 0, 0, 0), (103, .iload 8, 0, 0, 0), (105, .iload 10, 0, 0, 0), (107, .invokestatic 38, 104, 7, 1805), (110, .istore 12, 0, 0, 0), (112, .aload_n 1, 0, 0, 0), (113, .iconst 4, 0, 0, 0), (114, .aload 4, 0, 0, 0), (116, .iconst 4, 0, 0, 0), (117, .iload 8, 0, 0, 0), (119, .imul, 0, 0, 0), (120, .iconst 3, 0, 0, 0), (121, .iadd, 0, 0, 0), (122, .iaload, 0, 0, 0), (123, .ifCond .lt 7, 130, 0, 0), (126, .iconst 1, 0, 0, 0), (127, .goto 40, 167, 0, 0), (130, .iload 10, 0, 0, 0), (132, .aload 4, 0, 0, 0), (134, .iconst 4, 0, 0, 0), (135, .iload 8, 0, 0, 0), (137, .imul, 0, 0, 0), (138, .iconst 2, 0, 0, 0)]
def a_c112_2 : List (Nat × aR) := [(139, .iadd, 0, 0, 0), (140, .iaload, 0, 0, 0), (141, .if_icmp .le 7, 148, 0, 0), (144, .iconst 2, 0, 0, 0), (145, .goto 22, 167, 0, 0), (148, .iload 11, 0, 0, 0), (150, .ifCond .ne 7, 157, 0, 0), (153, .iconst 3, 0, 0, 0), (154, .goto 13, 167, 0, 0), (157, .iload 12, 0, 0, 0), (159, .ifCond .ge 7, 166, 0, 0), (162, .iconst 4, 0, 0, 0), (163, .goto 4, 167, 0, 0), (166, .iconst 0, 0, 0, 0), (167, .iastore, 0, 0, 0), (168, .aload_n 1, 0, 0, 0), (169, .iconst 4, 0, 0, 0), (170, .iaload, 0, 0, 0), (171, .ifCond .le 24, 195, 0, 0), (174, .aload_n 0, 0, 0, 0), (175, .iload 8, 0, 0, 0), (177, .iload 10, 0, 0, 0), (179, .iload 9, 0, 0, 0), (181, .invokevirtual 73, 67, 4, 1603), (184, .bipush (-5), 0, 0, 0), (186, .if_icmp .ne 7, 193, 0, 0), (189, .iconst 1, 0, 0, 0), (190, .goto 4, 194, 0, 0), (193, .iconst 0, 0, 0, 0), (194, .ireturn, 0, 0, 0), (195, .aload 4, 0, 0, 0), (197, .iconst 4, 0, 0, 0), (198, .iload 8, 0, 0, 0), (200, .imul, 0, 0, 0), (201, .iconst 3, 0, 0, 0), (202, .iadd, 0, 0, 0), (203, .iload 12, 0, 0, 0), (205, .iastore, 0, 0, 0), (206, .aload 5, 0, 0, 0), (208, .iconst 3, 0, 0, 0)]
def a_c112_3 : List (Nat × aR) := [(209, .iload 8, 0, 0, 0), (211, .imul, 0, 0, 0), (212, .iload 10, 0, 0, 0), (214, .iastore, 0, 0, 0), (215, .aload 5, 0, 0, 0), (217, .iconst 3, 0, 0, 0), (218, .iload 8, 0, 0, 0), (220, .imul, 0, 0, 0), (221, .iconst 1, 0, 0, 0), (222, .iadd, 0, 0, 0), (223, .aload_n 1, 0, 0, 0), (224, .iconst 0, 0, 0, 0), (225, .iaload, 0, 0, 0), (226, .iload 9, 0, 0, 0), (228, .iadd, 0, 0, 0), (229, .iastore, 0, 0, 0), (230, .aload 5, 0, 0, 0), (232, .iconst 3, 0, 0, 0), (233, .iload 8, 0, 0, 0), (235, .imul, 0, 0, 0), (236, .iconst 2, 0, 0, 0), (237, .iadd, 0, 0, 0), (238, .bipush (-6), 0, 0, 0), (240, .iastore, 0, 0, 0), (241, .aload_n 0, 0, 0, 0), (242, .iload 8, 0, 0, 0), (244, .iload 10, 0, 0, 0), (246, .iload 9, 0, 0, 0), (248, .invokevirtual 73, 67, 4, 1603), (251, .iload 12, 0, 0, 0), (253, .if_icmp .ne 7, 260, 0, 0), (256, .iconst 1, 0, 0, 0), (257, .goto 4, 261, 0, 0), (260, .iconst 0, 0, 0, 0), (261, .ireturn, 0, 0, 0), (262, .aload 4, 0, 0, 0), (264, .iconst 4, 0, 0, 0), (265, .iload 8, 0, 0, 0), (267, .imul, 0, 0, 0), (268, .iconst 3, 0, 0, 0)]
def a_c112_4 : List (Nat × aR) := [(269, .iadd, 0, 0, 0), (270, .iaload, 0, 0, 0), (271, .ifCond .ge 33, 304, 0, 0), (274, .aload_n 0, 0, 0, 0), (275, .iload 8, 0, 0, 0), (277, .iload 9, 0, 0, 0), (279, .invokevirtual 76, 68, 3, 1710), (282, .bipush (-3), 0, 0, 0), (284, .if_icmp .ne 18, 302, 0, 0), (287, .aload_n 0, 0, 0, 0), (288, .iload 8, 0, 0, 0), (290, .invokevirtual 79, 69, 2, 1718), (293, .bipush (-3), 0, 0, 0), (295, .if_icmp .ne 7, 302, 0, 0), (298, .iconst 1, 0, 0, 0), (299, .goto 4, 303, 0, 0), (302, .iconst 0, 0, 0, 0), (303, .ireturn, 0, 0, 0), (304, .iload 7, 0, 0, 0), (306, .iconst 5, 0, 0, 0), (307, .if_icmp .ne 92, 399, 0, 0), (310, .aload_n 1, 0, 0, 0), (311, .iconst 4, 0, 0, 0), (312, .aload 5, 0, 0, 0), (314, .iconst 3, 0, 0, 0), (315, .iload 8, 0, 0, 0), (317, .imul, 0, 0, 0), (318, .iconst 2, 0, 0, 0), (319, .iadd, 0, 0, 0), (320, .iaload, 0, 0, 0), (321, .ifCond .lt 7, 328, 0, 0), (324, .iconst 5, 0, 0, 0), (325, .goto 4, 329, 0, 0), (328, .iconst 0, 0, 0, 0), (329, .iastore, 0, 0, 0), (330, .aload 5, 0, 0, 0), (332, .iconst 3, 0, 0, 0), (333, .iload 8, 0, 0, 0), (335, .imul, 0, 0, 0), (336, .iconst 1, 0, 0, 0)]
def a_c112_5 : List (Nat × aR) := [(337, .iadd, 0, 0, 0), (338, .aload_n 1, 0, 0, 0), (339, .iconst 4, 0, 0, 0), (340, .iaload, 0, 0, 0), (341, .iconst 5, 0, 0, 0), (342, .if_icmp .ne 15, 357, 0, 0), (345, .aload 5, 0, 0, 0), (347, .iconst 3, 0, 0, 0), (348, .iload 8, 0, 0, 0), (350, .imul, 0, 0, 0), (351, .iconst 1, 0, 0, 0), (352, .iadd, 0, 0, 0), (353, .iaload, 0, 0, 0), (354, .goto 9, 363, 0, 0), (357, .aload_n 1, 0, 0, 0), (358, .iconst 0, 0, 0, 0), (359, .iaload, 0, 0, 0), (360, .iload 9, 0, 0, 0), (362, .iadd, 0, 0, 0), (363, .iastore, 0, 0, 0), (364, .aload_n 0, 0, 0, 0), (365, .iload 8, 0, 0, 0), (367, .iload 9, 0, 0, 0), (369, .invokevirtual 76, 68, 3, 1710), (372, .aload_n 1, 0, 0, 0), (373, .iconst 4, 0, 0, 0), (374, .iaload, 0, 0, 0), (375, .iconst 5, 0, 0, 0), (376, .if_icmp .ne 8, 384, 0, 0), (379, .bipush (-5), 0, 0, 0), (381, .goto 9, 390, 0, 0), (384, .aload_n 1, 0, 0, 0), (385, .iconst 0, 0, 0, 0), (386, .iaload, 0, 0, 0), (387, .iload 9, 0, 0, 0), (389, .iadd, 0, 0, 0), (390, .if_icmp .ne 7, 397, 0, 0), (393, .iconst 1, 0, 0, 0), (394, .goto 4, 398, 0, 0), (397, .iconst 0, 0, 0, 0)]
def a_c112_6 : List (Nat × aR) := [(398, .ireturn, 0, 0, 0), (399, .aload 4, 0, 0, 0), (401, .aload 5, 0, 0, 0), (403, .iload 8, 0, 0, 0), (405, .invokestatic 30, 106, 3, 1415), (408, .aload_n 0, 0, 0, 0), (409, .iload 8, 0, 0, 0), (411, .invokevirtual 79, 69, 2, 1718), (414, .aload_n 1, 0, 0, 0), (415, .aload 4, 0, 0, 0), (417, .invokestatic 82, 108, 2, 1001), (420, .if_icmp .ne 7, 427, 0, 0), (423, .iconst 1, 0, 0, 0), (424, .goto 4, 428, 0, 0), (427, .iconst 0, 0, 0, 0), (428, .ireturn, 0, 0, 0)]
def a_c112 : List (Nat × aR) := a_c112_0 ++ (a_c112_1 ++ (a_c112_2 ++ (a_c112_3 ++ (a_c112_4 ++ (a_c112_5 ++ (a_c112_6))))))
/-- L acts -/
def a_c113_0 : List (Nat × aR) := [(0, .iload 7, 0, 0, 0), (2, .iconst 5, 0, 0, 0), (3, .ishr, 0, 0, 0), (4, .ldc 85, 10000000, 0, 1120), (6, .invokestatic 86, 98, 2, 1121), (9, .istore 8, 0, 0, 0), (11, .iload 7, 0, 0, 0), (13, .bipush 25, 0, 0, 0), (15, .invokestatic 86, 98, 2, 1121), (18, .istore 9, 0, 0, 0), (20, .iload 9, 0, 0, 0), (22, .bipush 6, 0, 0, 0), (24, .if_icmp .ge 40, 64, 0, 0), (27, .aload_n 0, 0, 0, 0), (28, .aload_n 1, 0, 0, 0), (29, .aload_n 2, 0, 0, 0), (30, .aload_n 3, 0, 0, 0), (31, .aload 4, 0, 0, 0), (33, .aload 5, 0, 0, 0), (35, .aload 6, 0, 0, 0), (37, .iload 8, 0, 0, 0), (39, .iload 9, 0, 0, 0), (41, .iconst 2, 0, 0, 0), (42, .if_icmp .ge 7, 49, 0, 0), (45, .iconst 0, 0, 0, 0), (46, .goto 14, 60, 0, 0), (49, .iload 9, 0, 0, 0), (51, .iconst 2, 0, 0, 0), (52, .if_icmp .ne 7, 59, 0, 0), (55, .iconst 1, 0, 0, 0), (56, .goto 4, 60, 0, 0), (59, .iconst 2, 0, 0, 0), (60, .invokestatic 89, 110, 9, 1200), (63, .ireturn, 0, 0, 0), (64, .iload 9, 0, 0, 0), (66, .bipush 12, 0, 0, 0), (68, .if_icmp .ge 33, 101, 0, 0), (71, .aload_n 0, 0, 0, 0), (72, .aload_n 1, 0, 0, 0), (73, .aload_n 2, 0, 0, 0)]
def a_c113_1 : List (Nat × aR) := [(74, .aload_n 3, 0, 0, 0), (75, .aload 4, 0, 0, 0), (77, .aload 5, 0, 0, 0), (79, .iload 8, 0, 0, 0), (81, .iload 9, 0, 0, 0), (83, .bipush 10, 0, 0, 0), (85, .if_icmp .ge 7, 92, 0, 0), (88, .iconst 0, 0, 0, 0), (89, .goto 8, 97, 0, 0), (92, .iload 9, 0, 0, 0), (94, .bipush 9, 0, 0, 0), (96, .isub, 0, 0, 0), (97, .invokestatic 93, 111, 8, 1418), (100, .ireturn, 0, 0, 0), (101, .iload 9, 0, 0, 0), (103, .bipush 20, 0, 0, 0), (105, .if_icmp .ge 66, 171, 0, 0), (108, .aload_n 1, 0, 0, 0), (109, .iconst 3, 0, 0, 0), (110, .iaload, 0, 0, 0), (111, .ifCond .ne 41, 152, 0, 0), (114, .aload_n 0, 0, 0, 0), (115, .iconst 0, 0, 0, 0), (116, .iconst 0, 0, 0, 0), (117, .iconst 1, 0, 0, 0), (118, .invokevirtual 73, 67, 4, 1603), (121, .iconst (-1), 0, 0, 0), (122, .if_icmp .ne 26, 148, 0, 0), (125, .aload_n 0, 0, 0, 0), (126, .iconst 0, 0, 0, 0), (127, .iconst 1, 0, 0, 0), (128, .invokevirtual 76, 68, 3, 1710), (131, .iconst (-1), 0, 0, 0), (132, .if_icmp .ne 16, 148, 0, 0), (135, .aload_n 0, 0, 0, 0), (136, .iconst 0, 0, 0, 0), (137, .invokevirtual 79, 69, 2, 1718), (140, .iconst (-1), 0, 0, 0), (141, .if_icmp .ne 7, 148, 0, 0), (144, .iconst 1, 0, 0, 0)]
def a_c113_2 : List (Nat × aR) := [(145, .goto 25, 170, 0, 0), (148, .iconst 0, 0, 0, 0), (149, .goto 21, 170, 0, 0), (152, .aload_n 0, 0, 0, 0), (153, .aload_n 1, 0, 0, 0), (154, .aload_n 2, 0, 0, 0), (155, .aload_n 3, 0, 0, 0), (156, .aload 4, 0, 0, 0), (158, .aload 5, 0, 0, 0), (160, .iload 8, 0, 0, 0), (162, .iload 9, 0, 0, 0), (164, .bipush 12, 0, 0, 0), (166, .isub, 0, 0, 0), (167, .invokestatic 97, 112, 8, 1802), (170, .ireturn, 0, 0, 0), (171, .iconst 1, 0, 0, 0), (172, .iload 8, 0, 0, 0), (174, .iload 8, 0, 0, 0), (176, .iconst 4, 0, 0, 0), (177, .irem, 0, 0, 0), (178, .ifCond .ne 8, 186, 0, 0), (181, .bipush 12, 0, 0, 0), (183, .goto 4, 187, 0, 0), (186, .iconst 3, 0, 0, 0), (187, .irem, 0, 0, 0), (188, .iadd, 0, 0, 0), (189, .istore 10, 0, 0, 0), (191, .iconst 0, 0, 0, 0), (192, .istore 11, 0, 0, 0), (194, .iconst 0, 0, 0, 0), (195, .istore 12, 0, 0, 0), (197, .iload 12, 0, 0, 0), (199, .iload 10, 0, 0, 0), (201, .if_icmp .ge 26, 227, 0, 0), (204, .iload 11, 0, 0, 0), (206, .aload_n 1, 0, 0, 0), (207, .aload_n 2, 0, 0, 0), (208, .aload_n 3, 0, 0, 0), (209, .aload 4, 0, 0, 0), (211, .aload 5, 0, 0, 0)]
def a_c113_3 : List (Nat × aR) := [(213, .aload 6, 0, 0, 0), (215, .invokestatic 100, 109, 6, 1808), (218, .iadd, 0, 0, 0), (219, .istore 11, 0, 0, 0), (221, .iinc 12 1, 0, 0, 0), (224, .goto (-27), 197, 0, 0), (227, .aload_n 0, 0, 0, 0), (228, .iload 10, 0, 0, 0), (230, .invokevirtual 104, 70, 2, 1811), (233, .iload 11, 0, 0, 0), (235, .if_icmp .ne 7, 242, 0, 0), (238, .iconst 1, 0, 0, 0), (239, .goto 4, 243, 0, 0), (242, .iconst 0, 0, 0, 0), (243, .ireturn, 0, 0, 0)]
def a_c113 : List (Nat × aR) := a_c113_0 ++ (a_c113_1 ++ (a_c113_2 ++ (a_c113_3)))
/-- L isSo -/
def a_c114_0 : List (Nat × aR) := [(0, .iconst 0, 0, 0, 0), (1, .istore 7, 0, 0, 0), (3, .iconst 0, 0, 0, 0), (4, .istore 8, 0, 0, 0), (6, .iconst 0, 0, 0, 0), (7, .istore 9, 0, 0, 0), (9, .iconst 0, 0, 0, 0), (10, .istore 10, 0, 0, 0), (12, .iconst 1, 0, 0, 0), (13, .istore 11, 0, 0, 0), (15, .iconst 0, 0, 0, 0), (16, .istore 12, 0, 0, 0), (18, .iload 12, 0, 0, 0), (20, .aload_n 1, 0, 0, 0), (21, .iconst 1, 0, 0, 0), (22, .iaload, 0, 0, 0), (23, .if_icmp .ge 285, 308, 0, 0), (26, .iload 11, 0, 0, 0), (28, .ifCond .eq 280, 308, 0, 0), (31, .iconst 5, 0, 0, 0), (32, .iload 12, 0, 0, 0), (34, .imul, 0, 0, 0), (35, .istore 13, 0, 0, 0), (37, .iconst 0, 0, 0, 0), (38, .istore 14, 0, 0, 0), (40, .iconst 0, 0, 0, 0), (41, .istore 15, 0, 0, 0), (43, .iload 15, 0, 0, 0), (45, .aload_n 1, 0, 0, 0), (46, .iconst 3, 0, 0, 0), (47, .iaload, 0, 0, 0), (48, .if_icmp .ge 113, 161, 0, 0), (51, .aload_n 2, 0, 0, 0), (52, .iload 13, 0, 0, 0), (54, .iconst 4, 0, 0, 0), (55, .iadd, 0, 0, 0), (56, .iaload, 0, 0, 0), (57, .iconst 1, 0, 0, 0), (58, .if_icmp .ne 103, 161, 0, 0), (61, .aload 4, 0, 0, 0)]
def a_c114_1 : List (Nat × aR) := [(63, .iconst 4, 0, 0, 0), (64, .iload 15, 0, 0, 0), (66, .imul, 0, 0, 0), (67, .iconst 3, 0, 0, 0), (68, .iadd, 0, 0, 0), (69, .iaload, 0, 0, 0), (70, .ifCond .lt 85, 155, 0, 0), (73, .aload_n 1, 0, 0, 0), (74, .aload_n 2, 0, 0, 0), (75, .aload_n 3, 0, 0, 0), (76, .aload 4, 0, 0, 0), (78, .iload 15, 0, 0, 0), (80, .aload 4, 0, 0, 0), (82, .iconst 4, 0, 0, 0), (83, .iload 15, 0, 0, 0), (85, .imul, 0, 0, 0), (86, .iconst 3, 0, 0, 0), (87, .iadd, 0, 0, 0), (88, .iaload, 0, 0, 0), (89, .aload 5, 0, 0, 0), (91, .iconst 3, 0, 0, 0), (92, .iload 15, 0, 0, 0), (94, .imul, 0, 0, 0), (95, .iaload, 0, 0, 0), (96, .invokestatic 26, 103, 7, 319), (99, .ifCond .ne 56, 155, 0, 0), (102, .aload_n 2, 0, 0, 0), (103, .iload 13, 0, 0, 0), (105, .iconst 4, 0, 0, 0), (106, .iadd, 0, 0, 0), (107, .iconst 0, 0, 0, 0), (108, .iastore, 0, 0, 0), (109, .iload 14, 0, 0, 0), (111, .aload_n 1, 0, 0, 0), (112, .aload_n 2, 0, 0, 0), (113, .aload_n 3, 0, 0, 0), (114, .aload 4, 0, 0, 0), (116, .iload 15, 0, 0, 0), (118, .aload 4, 0, 0, 0), (120, .iconst 4, 0, 0, 0)]
def a_c114_2 : List (Nat × aR) := [(121, .iload 15, 0, 0, 0), (123, .imul, 0, 0, 0), (124, .iconst 3, 0, 0, 0), (125, .iadd, 0, 0, 0), (126, .iaload, 0, 0, 0), (127, .aload 5, 0, 0, 0), (129, .iconst 3, 0, 0, 0), (130, .iload 15, 0, 0, 0), (132, .imul, 0, 0, 0), (133, .iaload, 0, 0, 0), (134, .invokestatic 26, 103, 7, 319), (137, .ifCond .eq 7, 144, 0, 0), (140, .iconst 1, 0, 0, 0), (141, .goto 4, 145, 0, 0), (144, .iconst 0, 0, 0, 0), (145, .iadd, 0, 0, 0), (146, .istore 14, 0, 0, 0), (148, .aload_n 2, 0, 0, 0), (149, .iload 13, 0, 0, 0), (151, .iconst 4, 0, 0, 0), (152, .iadd, 0, 0, 0), (153, .iconst 1, 0, 0, 0), (154, .iastore, 0, 0, 0), (155, .iinc 15 1, 0, 0, 0), (158, .goto (-115), 43, 0, 0), (161, .iload 7, 0, 0, 0), (163, .aload_n 2, 0, 0, 0), (164, .iload 13, 0, 0, 0), (166, .iconst 4, 0, 0, 0), (167, .iadd, 0, 0, 0), (168, .iaload, 0, 0, 0), (169, .iadd, 0, 0, 0), (170, .istore 7, 0, 0, 0), (172, .aload_n 0, 0, 0, 0), (173, .iload 12, 0, 0, 0), (175, .iconst 0, 0, 0, 0), (176, .invokevirtual 107, 78, 3, 410), (179, .aload_n 2, 0, 0, 0), (180, .iload 13, 0, 0, 0), (182, .iaload, 0, 0, 0)]
def a_c114_3 : List (Nat × aR) := [(183, .if_icmp .ne 116, 299, 0, 0), (186, .aload_n 0, 0, 0, 0), (187, .iload 12, 0, 0, 0), (189, .iconst 1, 0, 0, 0), (190, .invokevirtual 107, 78, 3, 410), (193, .aload_n 2, 0, 0, 0), (194, .iload 13, 0, 0, 0), (196, .iconst 1, 0, 0, 0), (197, .iadd, 0, 0, 0), (198, .iaload, 0, 0, 0), (199, .if_icmp .ne 100, 299, 0, 0), (202, .aload_n 0, 0, 0, 0), (203, .iload 12, 0, 0, 0), (205, .iconst 2, 0, 0, 0), (206, .invokevirtual 107, 78, 3, 410), (209, .aload_n 2, 0, 0, 0), (210, .iload 13, 0, 0, 0), (212, .iconst 2, 0, 0, 0), (213, .iadd, 0, 0, 0), (214, .iaload, 0, 0, 0), (215, .if_icmp .ne 84, 299, 0, 0), (218, .aload_n 0, 0, 0, 0), (219, .iload 12, 0, 0, 0), (221, .iconst 3, 0, 0, 0), (222, .invokevirtual 107, 78, 3, 410), (225, .aload_n 2, 0, 0, 0), (226, .iload 13, 0, 0, 0), (228, .iconst 3, 0, 0, 0), (229, .iadd, 0, 0, 0), (230, .iaload, 0, 0, 0), (231, .if_icmp .ne 68, 299, 0, 0), (234, .aload_n 0, 0, 0, 0), (235, .iload 12, 0, 0, 0), (237, .iconst 4, 0, 0, 0), (238, .invokevirtual 107, 78, 3, 410), (241, .aload_n 2, 0, 0, 0), (242, .iload 13, 0, 0, 0), (244, .iconst 3, 0, 0, 0), (245, .iadd, 0, 0, 0), (246, .iaload, 0, 0, 0)]
def a_c114_4 : List (Nat × aR) := [(247, .invokestatic 9, 100, 1, 401), (250, .if_icmp .ne 49, 299, 0, 0), (253, .aload_n 0, 0, 0, 0), (254, .iload 12, 0, 0, 0), (256, .iconst 5, 0, 0, 0), (257, .invokevirtual 107, 78, 3, 410), (260, .aload_n 2, 0, 0, 0), (261, .iload 13, 0, 0, 0), (263, .iconst 4, 0, 0, 0), (264, .iadd, 0, 0, 0), (265, .iaload, 0, 0, 0), (266, .if_icmp .ne 33, 299, 0, 0), (269, .aload_n 0, 0, 0, 0), (270, .iload 12, 0, 0, 0), (272, .bipush 6, 0, 0, 0), (274, .invokevirtual 107, 78, 3, 410), (277, .iload 14, 0, 0, 0), (279, .if_icmp .ne 20, 299, 0, 0), (282, .aload_n 0, 0, 0, 0), (283, .iload 12, 0, 0, 0), (285, .bipush 7, 0, 0, 0), (287, .invokevirtual 107, 78, 3, 410), (290, .bipush (-2), 0, 0, 0), (292, .if_icmp .ne 7, 299, 0, 0), (295, .iconst 1, 0, 0, 0), (296, .goto 4, 300, 0, 0), (299, .iconst 0, 0, 0, 0), (300, .istore 11, 0, 0, 0), (302, .iinc 12 1, 0, 0, 0), (305, .goto (-287), 18, 0, 0), (308, .iconst 0, 0, 0, 0), (309, .istore 12, 0, 0, 0), (311, .iload 12, 0, 0, 0), (313, .bipush 8, 0, 0, 0), (315, .aload_n 1, 0, 0, 0), (316, .iconst 2, 0, 0, 0), (317, .iaload, 0, 0, 0), (318, .imul, 0, 0, 0), (319, .if_icmp .ge 122, 441, 0, 0), (322, .iload 11, 0, 0, 0)]
def a_c114_5 : List (Nat × aR) := [(324, .ifCond .eq 117, 441, 0, 0), (327, .bipush 7, 0, 0, 0), (329, .iload 12, 0, 0, 0), (331, .bipush 8, 0, 0, 0), (333, .idiv, 0, 0, 0), (334, .imul, 0, 0, 0), (335, .istore 13, 0, 0, 0), (337, .aload_n 3, 0, 0, 0), (338, .iload 13, 0, 0, 0), (340, .bipush 6, 0, 0, 0), (342, .iadd, 0, 0, 0), (343, .iaload, 0, 0, 0), (344, .ifCond .ne 31, 375, 0, 0), (347, .aload_n 3, 0, 0, 0), (348, .iload 13, 0, 0, 0), (350, .iconst 4, 0, 0, 0), (351, .iadd, 0, 0, 0), (352, .iaload, 0, 0, 0), (353, .aload_n 1, 0, 0, 0), (354, .iconst 0, 0, 0, 0), (355, .iaload, 0, 0, 0), (356, .if_icmp .gt 19, 375, 0, 0), (359, .aload_n 1, 0, 0, 0), (360, .iconst 0, 0, 0, 0), (361, .iaload, 0, 0, 0), (362, .aload_n 3, 0, 0, 0), (363, .iload 13, 0, 0, 0), (365, .iconst 5, 0, 0, 0), (366, .iadd, 0, 0, 0), (367, .iaload, 0, 0, 0), (368, .if_icmp .ge 7, 375, 0, 0), (371, .iconst 1, 0, 0, 0), (372, .goto 4, 376, 0, 0), (375, .iconst 0, 0, 0, 0), (376, .istore 14, 0, 0, 0), (378, .aload_n 0, 0, 0, 0), (379, .iload 12, 0, 0, 0), (381, .bipush 8, 0, 0, 0), (383, .idiv, 0, 0, 0), (384, .iload 12, 0, 0, 0)]
def a_c114_6 : List (Nat × aR) := [(386, .bipush 8, 0, 0, 0), (388, .irem, 0, 0, 0), (389, .invokevirtual 110, 79, 3, 805), (392, .iload 12, 0, 0, 0), (394, .bipush 8, 0, 0, 0), (396, .irem, 0, 0, 0), (397, .bipush 7, 0, 0, 0), (399, .if_icmp .ne 16, 415, 0, 0), (402, .iload 14, 0, 0, 0), (404, .ifCond .eq 7, 411, 0, 0), (407, .iconst 1, 0, 0, 0), (408, .goto 17, 425, 0, 0), (411, .iconst 0, 0, 0, 0), (412, .goto 13, 425, 0, 0), (415, .aload_n 3, 0, 0, 0), (416, .iload 13, 0, 0, 0), (418, .iload 12, 0, 0, 0), (420, .bipush 8, 0, 0, 0), (422, .irem, 0, 0, 0), (423, .iadd, 0, 0, 0), (424, .iaload, 0, 0, 0), (425, .if_icmp .ne 7, 432, 0, 0), (428, .iconst 1, 0, 0, 0), (429, .goto 4, 433, 0, 0), (432, .iconst 0, 0, 0, 0), (433, .istore 11, 0, 0, 0), (435, .iinc 12 1, 0, 0, 0), (438, .goto (-127), 311, 0, 0), (441, .iconst 0, 0, 0, 0), (442, .istore 12, 0, 0, 0), (444, .iload 12, 0, 0, 0), (446, .aload_n 1, 0, 0, 0), (447, .iconst 3, 0, 0, 0), (448, .iaload, 0, 0, 0), (449, .if_icmp .ge 371, 820, 0, 0), (452, .iload 11, 0, 0, 0), (454, .ifCond .eq 366, 820, 0, 0), (457, .aload_n 1, 0, 0, 0), (458, .iconst 0, 0, 0, 0), (459, .iaload, 0, 0, 0)]
def a_c114_7 : List (Nat × aR) := [(460, .iconst 1, 0, 0, 0), (461, .iadd, 0, 0, 0), (462, .istore 13, 0, 0, 0), (464, .iload 13, 0, 0, 0), (466, .iload 12, 0, 0, 0), (468, .iadd, 0, 0, 0), (469, .aload_n 1, 0, 0, 0), (470, .bipush 6, 0, 0, 0), (472, .iaload, 0, 0, 0), (473, .irem, 0, 0, 0), (474, .ifCond .le 9, 483, 0, 0), (477, .iinc 13 1, 0, 0, 0), (480, .goto (-16), 464, 0, 0), (483, .iload 8, 0, 0, 0), (485, .aload 6, 0, 0, 0), (487, .iconst 3, 0, 0, 0), (488, .iload 12, 0, 0, 0), (490, .imul, 0, 0, 0), (491, .iaload, 0, 0, 0), (492, .iadd, 0, 0, 0), (493, .istore 8, 0, 0, 0), (495, .iload 9, 0, 0, 0), (497, .aload 6, 0, 0, 0), (499, .iconst 3, 0, 0, 0), (500, .iload 12, 0, 0, 0), (502, .imul, 0, 0, 0), (503, .iconst 1, 0, 0, 0), (504, .iadd, 0, 0, 0), (505, .iaload, 0, 0, 0), (506, .iadd, 0, 0, 0), (507, .istore 9, 0, 0, 0), (509, .iload 10, 0, 0, 0), (511, .aload 6, 0, 0, 0), (513, .iconst 3, 0, 0, 0), (514, .iload 12, 0, 0, 0), (516, .imul, 0, 0, 0), (517, .iconst 2, 0, 0, 0), (518, .iadd, 0, 0, 0), (519, .iaload, 0, 0, 0), (520, .iadd, 0, 0, 0)]
def a_c114_8 : List (Nat × aR) := [(521, .istore 10, 0, 0, 0), (523, .aload_n 0, 0, 0, 0), (524, .iload 12, 0, 0, 0), (526, .iconst 0, 0, 0, 0), (527, .invokevirtual 113, 80, 3, 820), (530, .aload 4, 0, 0, 0), (532, .iconst 4, 0, 0, 0), (533, .iload 12, 0, 0, 0), (535, .imul, 0, 0, 0), (536, .iaload, 0, 0, 0), (537, .if_icmp .ne 204, 741, 0, 0), (540, .aload_n 0, 0, 0, 0), (541, .iload 12, 0, 0, 0), (543, .iconst 1, 0, 0, 0), (544, .invokevirtual 113, 80, 3, 820), (547, .aload 4, 0, 0, 0), (549, .iconst 4, 0, 0, 0), (550, .iload 12, 0, 0, 0), (552, .imul, 0, 0, 0), (553, .iconst 1, 0, 0, 0), (554, .iadd, 0, 0, 0), (555, .iaload, 0, 0, 0), (556, .if_icmp .ne 185, 741, 0, 0), (559, .aload_n 0, 0, 0, 0), (560, .iload 12, 0, 0, 0), (562, .iconst 2, 0, 0, 0), (563, .invokevirtual 113, 80, 3, 820), (566, .aload 4, 0, 0, 0), (568, .iconst 4, 0, 0, 0), (569, .iload 12, 0, 0, 0), (571, .imul, 0, 0, 0), (572, .iconst 2, 0, 0, 0), (573, .iadd, 0, 0, 0), (574, .iaload, 0, 0, 0), (575, .if_icmp .ne 166, 741, 0, 0), (578, .aload_n 0, 0, 0, 0), (579, .iload 12, 0, 0, 0), (581, .iconst 3, 0, 0, 0), (582, .invokevirtual 113, 80, 3, 820), (585, .aload 4, 0, 0, 0)]
def a_c114_9 : List (Nat × aR) := [(587, .iconst 4, 0, 0, 0), (588, .iload 12, 0, 0, 0), (590, .imul, 0, 0, 0), (591, .iconst 3, 0, 0, 0), (592, .iadd, 0, 0, 0), (593, .iaload, 0, 0, 0), (594, .if_icmp .ne 147, 741, 0, 0), (597, .aload_n 0, 0, 0, 0), (598, .iload 12, 0, 0, 0), (600, .iconst 4, 0, 0, 0), (601, .invokevirtual 113, 80, 3, 820), (604, .aload 5, 0, 0, 0), (606, .iconst 3, 0, 0, 0), (607, .iload 12, 0, 0, 0), (609, .imul, 0, 0, 0), (610, .iaload, 0, 0, 0), (611, .if_icmp .ne 130, 741, 0, 0), (614, .aload_n 0, 0, 0, 0), (615, .iload 12, 0, 0, 0), (617, .iconst 5, 0, 0, 0), (618, .invokevirtual 113, 80, 3, 820), (621, .aload 5, 0, 0, 0), (623, .iconst 3, 0, 0, 0), (624, .iload 12, 0, 0, 0), (626, .imul, 0, 0, 0), (627, .iconst 1, 0, 0, 0), (628, .iadd, 0, 0, 0), (629, .iaload, 0, 0, 0), (630, .if_icmp .ne 111, 741, 0, 0), (633, .aload_n 0, 0, 0, 0), (634, .iload 12, 0, 0, 0), (636, .bipush 6, 0, 0, 0), (638, .invokevirtual 113, 80, 3, 820), (641, .aload 5, 0, 0, 0), (643, .iconst 3, 0, 0, 0), (644, .iload 12, 0, 0, 0), (646, .imul, 0, 0, 0), (647, .iconst 2, 0, 0, 0), (648, .iadd, 0, 0, 0), (649, .iaload, 0, 0, 0)]
def a_c114_10 : List (Nat × aR) := [(650, .if_icmp .ne 91, 741, 0, 0), (653, .aload_n 0, 0, 0, 0), (654, .iload 12, 0, 0, 0), (656, .bipush 7, 0, 0, 0), (658, .invokevirtual 113, 80, 3, 820), (661, .aload 6, 0, 0, 0), (663, .iconst 3, 0, 0, 0), (664, .iload 12, 0, 0, 0), (666, .imul, 0, 0, 0), (667, .iaload, 0, 0, 0), (668, .if_icmp .ne 73, 741, 0, 0), (671, .aload_n 0, 0, 0, 0), (672, .iload 12, 0, 0, 0), (674, .bipush 8, 0, 0, 0), (676, .invokevirtual 113, 80, 3, 820), (679, .aload 6, 0, 0, 0), (681, .iconst 3, 0, 0, 0), (682, .iload 12, 0, 0, 0), (684, .imul, 0, 0, 0), (685, .iconst 1, 0, 0, 0), (686, .iadd, 0, 0, 0), (687, .iaload, 0, 0, 0), (688, .if_icmp .ne 53, 741, 0, 0), (691, .aload_n 0, 0, 0, 0), (692, .iload 12, 0, 0, 0), (694, .bipush 9, 0, 0, 0), (696, .invokevirtual 113, 80, 3, 820), (699, .aload 6, 0, 0, 0), (701, .iconst 3, 0, 0, 0), (702, .iload 12, 0, 0, 0), (704, .imul, 0, 0, 0), (705, .iconst 2, 0, 0, 0), (706, .iadd, 0, 0, 0), (707, .iaload, 0, 0, 0), (708, .if_icmp .ne 33, 741, 0, 0), (711, .aload_n 0, 0, 0, 0), (712, .iload 12, 0, 0, 0), (714, .bipush 10, 0, 0, 0), (716, .invokevirtual 113, 80, 3, 820), (719, .iload 13, 0, 0, 0)]
def a_c114_11 : List (Nat × aR) := [(721, .if_icmp .ne 20, 741, 0, 0), (724, .aload_n 0, 0, 0, 0), (725, .iload 12, 0, 0, 0), (727, .bipush 11, 0, 0, 0), (729, .invokevirtual 113, 80, 3, 820), (732, .bipush (-2), 0, 0, 0), (734, .if_icmp .ne 7, 741, 0, 0), (737, .iconst 1, 0, 0, 0), (738, .goto 4, 742, 0, 0), (741, .iconst 0, 0, 0, 0), (742, .istore 11, 0, 0, 0), (744, .iload 11, 0, 0, 0), (746, .ifCond .eq 65, 811, 0, 0), (749, .aload 4, 0, 0, 0), (751, .iconst 4, 0, 0, 0), (752, .iload 12, 0, 0, 0), (754, .imul, 0, 0, 0), (755, .iconst 3, 0, 0, 0), (756, .iadd, 0, 0, 0), (757, .iaload, 0, 0, 0), (758, .ifCond .lt 49, 807, 0, 0), (761, .aload_n 1, 0, 0, 0), (762, .aload_n 2, 0, 0, 0), (763, .aload_n 3, 0, 0, 0), (764, .aload 4, 0, 0, 0), (766, .iload 12, 0, 0, 0), (768, .aload 4, 0, 0, 0), (770, .iconst 4, 0, 0, 0), (771, .iload 12, 0, 0, 0), (773, .imul, 0, 0, 0), (774, .iconst 3, 0, 0, 0), (775, .iadd, 0, 0, 0), (776, .iaload, 0, 0, 0), (777, .aload 5, 0, 0, 0), (779, .iconst 3, 0, 0, 0), (780, .iload 12, 0, 0, 0), (782, .imul, 0, 0, 0), (783, .iaload, 0, 0, 0), (784, .invokestatic 26, 103, 7, 319), (787, .aload 5, 0, 0, 0)]
def a_c114_12 : List (Nat × aR) := [(789, .iconst 3, 0, 0, 0), (790, .iload 12, 0, 0, 0), (792, .imul, 0, 0, 0), (793, .iconst 2, 0, 0, 0), (794, .iadd, 0, 0, 0), (795, .iaload, 0, 0, 0), (796, .ifCond .ge 7, 803, 0, 0), (799, .iconst 1, 0, 0, 0), (800, .goto 4, 804, 0, 0), (803, .iconst 0, 0, 0, 0), (804, .if_icmp .ne 7, 811, 0, 0), (807, .iconst 1, 0, 0, 0), (808, .goto 4, 812, 0, 0), (811, .iconst 0, 0, 0, 0), (812, .istore 11, 0, 0, 0), (814, .iinc 12 1, 0, 0, 0), (817, .goto (-373), 444, 0, 0), (820, .iconst 0, 0, 0, 0), (821, .istore 12, 0, 0, 0), (823, .iconst 0, 0, 0, 0), (824, .istore 13, 0, 0, 0), (826, .iload 13, 0, 0, 0), (828, .bipush 8, 0, 0, 0), (830, .if_icmp .ge 83, 913, 0, 0), (833, .iload 11, 0, 0, 0), (835, .ifCond .eq 78, 913, 0, 0), (838, .iconst 0, 0, 0, 0), (839, .istore 14, 0, 0, 0), (841, .iconst 0, 0, 0, 0), (842, .istore 15, 0, 0, 0), (844, .iload 15, 0, 0, 0), (846, .aload_n 1, 0, 0, 0), (847, .iconst 3, 0, 0, 0), (848, .iaload, 0, 0, 0), (849, .if_icmp .ge 33, 882, 0, 0), (852, .iload 14, 0, 0, 0), (854, .aload 4, 0, 0, 0), (856, .iconst 4, 0, 0, 0), (857, .iload 15, 0, 0, 0), (859, .imul, 0, 0, 0)]
def a_c114_13 : List (Nat × aR) := [(860, .iconst 3, 0, 0, 0), (861, .iadd, 0, 0, 0), (862, .iaload, 0, 0, 0), (863, .iload 13, 0, 0, 0), (865, .if_icmp .ne 7, 872, 0, 0), (868, .iconst 1, 0, 0, 0), (869, .goto 4, 873, 0, 0), (872, .iconst 0, 0, 0, 0), (873, .iadd, 0, 0, 0), (874, .istore 14, 0, 0, 0), (876, .iinc 15 1, 0, 0, 0), (879, .goto (-35), 844, 0, 0), (882, .iload 12, 0, 0, 0), (884, .iload 14, 0, 0, 0), (886, .iadd, 0, 0, 0), (887, .istore 12, 0, 0, 0), (889, .aload_n 0, 0, 0, 0), (890, .iload 13, 0, 0, 0), (892, .invokevirtual 116, 84, 2, 917), (895, .iload 14, 0, 0, 0), (897, .if_icmp .ne 7, 904, 0, 0), (900, .iconst 1, 0, 0, 0), (901, .goto 4, 905, 0, 0), (904, .iconst 0, 0, 0, 0), (905, .istore 11, 0, 0, 0), (907, .iinc 13 1, 0, 0, 0), (910, .goto (-84), 826, 0, 0), (913, .iload 11, 0, 0, 0), (915, .ifCond .eq 97, 1012, 0, 0), (918, .iload 12, 0, 0, 0), (920, .aload_n 1, 0, 0, 0), (921, .aload 4, 0, 0, 0), (923, .invokestatic 82, 108, 2, 1001), (926, .if_icmp .ne 86, 1012, 0, 0), (929, .aload_n 0, 0, 0, 0), (930, .iconst 0, 0, 0, 0), (931, .invokevirtual 118, 85, 2, 1004), (934, .aload_n 1, 0, 0, 0), (935, .iconst 0, 0, 0, 0), (936, .iaload, 0, 0, 0)]
def a_c114_14 : List (Nat × aR) := [(937, .if_icmp .ne 75, 1012, 0, 0), (940, .aload_n 0, 0, 0, 0), (941, .iconst 1, 0, 0, 0), (942, .invokevirtual 118, 85, 2, 1004), (945, .aload_n 1, 0, 0, 0), (946, .iconst 1, 0, 0, 0), (947, .iaload, 0, 0, 0), (948, .if_icmp .ne 64, 1012, 0, 0), (951, .aload_n 0, 0, 0, 0), (952, .iconst 2, 0, 0, 0), (953, .invokevirtual 118, 85, 2, 1004), (956, .aload_n 1, 0, 0, 0), (957, .iconst 2, 0, 0, 0), (958, .iaload, 0, 0, 0), (959, .if_icmp .ne 53, 1012, 0, 0), (962, .aload_n 0, 0, 0, 0), (963, .iconst 3, 0, 0, 0), (964, .invokevirtual 118, 85, 2, 1004), (967, .aload_n 1, 0, 0, 0), (968, .iconst 3, 0, 0, 0), (969, .iaload, 0, 0, 0), (970, .if_icmp .ne 42, 1012, 0, 0), (973, .aload_n 0, 0, 0, 0), (974, .iconst 4, 0, 0, 0), (975, .invokevirtual 118, 85, 2, 1004), (978, .iload 7, 0, 0, 0), (980, .if_icmp .ne 32, 1012, 0, 0), (983, .aload_n 0, 0, 0, 0), (984, .iconst 5, 0, 0, 0), (985, .invokevirtual 118, 85, 2, 1004), (988, .iload 12, 0, 0, 0), (990, .if_icmp .ne 22, 1012, 0, 0), (993, .aload_n 0, 0, 0, 0), (994, .bipush 6, 0, 0, 0), (996, .invokevirtual 118, 85, 2, 1004), (999, .aload_n 1, 0, 0, 0), (1000, .aload 5, 0, 0, 0), (1002, .invokestatic 62, 107, 2, 1110), (1005, .if_icmp .ne 7, 1012, 0, 0), (1008, .iconst 1, 0, 0, 0)]
def a_c114_15 : List (Nat × aR) := [(1009, .goto 4, 1013, 0, 0), (1012, .iconst 0, 0, 0, 0), (1013, .istore 11, 0, 0, 0), (1015, .iload 11, 0, 0, 0), (1017, .ifCond .eq 99, 1116, 0, 0), (1020, .aload_n 0, 0, 0, 0), (1021, .bipush 7, 0, 0, 0), (1023, .invokevirtual 118, 85, 2, 1004), (1026, .iload 8, 0, 0, 0), (1028, .if_icmp .ne 88, 1116, 0, 0), (1031, .aload_n 0, 0, 0, 0), (1032, .bipush 8, 0, 0, 0), (1034, .invokevirtual 118, 85, 2, 1004), (1037, .iload 9, 0, 0, 0), (1039, .if_icmp .ne 77, 1116, 0, 0), (1042, .aload_n 0, 0, 0, 0), (1043, .bipush 9, 0, 0, 0), (1045, .invokevirtual 118, 85, 2, 1004), (1048, .iload 10, 0, 0, 0), (1050, .if_icmp .ne 66, 1116, 0, 0), (1053, .aload_n 0, 0, 0, 0), (1054, .bipush 10, 0, 0, 0), (1056, .invokevirtual 118, 85, 2, 1004), (1059, .aload_n 1, 0, 0, 0), (1060, .iconst 4, 0, 0, 0), (1061, .iaload, 0, 0, 0), (1062, .if_icmp .ne 54, 1116, 0, 0), (1065, .aload_n 0, 0, 0, 0), (1066, .bipush 12, 0, 0, 0), (1068, .invokevirtual 118, 85, 2, 1004), (1071, .ifCond .ne 45, 1116, 0, 0), (1074, .aload_n 0, 0, 0, 0), (1075, .bipush 13, 0, 0, 0), (1077, .invokevirtual 118, 85, 2, 1004), (1080, .aload_n 1, 0, 0, 0), (1081, .iconst 5, 0, 0, 0), (1082, .iaload, 0, 0, 0), (1083, .if_icmp .ne 33, 1116, 0, 0), (1086, .aload_n 0, 0, 0, 0), (1087, .bipush 14, 0, 0, 0)]
def a_c114_16 : List (Nat × aR) := [(1089, .invokevirtual 118, 85, 2, 1004), (1092, .aload_n 1, 0, 0, 0), (1093, .bipush 6, 0, 0, 0), (1095, .iaload, 0, 0, 0), (1096, .if_icmp .ne 20, 1116, 0, 0), (1099, .aload_n 0, 0, 0, 0), (1100, .bipush 15, 0, 0, 0), (1102, .invokevirtual 118, 85, 2, 1004), (1105, .aload_n 1, 0, 0, 0), (1106, .bipush 7, 0, 0, 0), (1108, .iaload, 0, 0, 0), (1109, .if_icmp .ne 7, 1116, 0, 0), (1112, .iconst 1, 0, 0, 0), (1113, .goto 4, 1117, 0, 0), (1116, .iconst 0, 0, 0, 0), (1117, .ireturn, 0, 0, 0)]
def a_c114 : List (Nat × aR) := a_c114_0 ++ (a_c114_1 ++ (a_c114_2 ++ (a_c114_3 ++ (a_c114_4 ++ (a_c114_5 ++ (a_c114_6 ++ (a_c114_7 ++ (a_c114_8 ++ (a_c114_9 ++ (a_c114_10 ++ (a_c114_11 ++ (a_c114_12 ++ (a_c114_13 ++ (a_c114_14 ++ (a_c114_15 ++ (a_c114_16))))))))))))))))
/-- L law -/
def a_c115_0 : List (Nat × aR) := [(0, .new 43, 0, 0, 0), (3, .dup, 0, 0, 0), (4, .invokespecial 121, 0, 0, 0), (7, .astore_n 1, 0, 0, 0), (8, .bipush 8, 0, 0, 0), (10, .newarray .int, 0, 0, 0), (12, .astore_n 2, 0, 0, 0), (13, .bipush 40, 0, 0, 0), (15, .newarray .int, 0, 0, 0), (17, .astore_n 3, 0, 0, 0), (18, .bipush 56, 0, 0, 0), (20, .newarray .int, 0, 0, 0), (22, .astore 4, 0, 0, 0), (24, .bipush 64, 0, 0, 0), (26, .newarray .int, 0, 0, 0), (28, .astore 5, 0, 0, 0), (30, .bipush 48, 0, 0, 0), (32, .newarray .int, 0, 0, 0), (34, .astore 6, 0, 0, 0), (36, .bipush 48, 0, 0, 0), (38, .newarray .int, 0, 0, 0), (40, .astore 7, 0, 0, 0), (42, .aload_n 2, 0, 0, 0), (43, .iconst 5, 0, 0, 0), (44, .bipush 40, 0, 0, 0), (46, .iastore, 0, 0, 0), (47, .aload_n 2, 0, 0, 0), (48, .bipush 6, 0, 0, 0), (50, .iconst 4, 0, 0, 0), (51, .iastore, 0, 0, 0), (52, .aload_n 2, 0, 0, 0), (53, .bipush 7, 0, 0, 0), (55, .iconst 3, 0, 0, 0), (56, .iastore, 0, 0, 0), (57, .aload_n 1, 0, 0, 0), (58, .aload_n 2, 0, 0, 0), (59, .aload_n 3, 0, 0, 0), (60, .aload 4, 0, 0, 0), (62, .aload 5, 0, 0, 0), (64, .aload 6, 0, 0, 0)]
def a_c115_1 : List (Nat × aR) := [(66, .aload 7, 0, 0, 0), (68, .invokestatic 122, 114, 7, 315), (71, .istore 8, 0, 0, 0), (73, .iconst 0, 0, 0, 0), (74, .istore 9, 0, 0, 0), (76, .iload 9, 0, 0, 0), (78, .bipush 12, 0, 0, 0), (80, .if_icmp .ge 73, 153, 0, 0), (83, .iload 8, 0, 0, 0), (85, .ifCond .eq 68, 153, 0, 0), (88, .aload_n 1, 0, 0, 0), (89, .aload_n 2, 0, 0, 0), (90, .aload_n 3, 0, 0, 0), (91, .aload 4, 0, 0, 0), (93, .aload 5, 0, 0, 0), (95, .aload 6, 0, 0, 0), (97, .aload 7, 0, 0, 0), (99, .aload_n 0, 0, 0, 0), (100, .iconst 1, 0, 0, 0), (101, .iload 9, 0, 0, 0), (103, .iadd, 0, 0, 0), (104, .invokestatic 126, 97, 2, 1113), (107, .ldc 8, 2147483647, 0, 4), (109, .iand, 0, 0, 0), (110, .sipush 800, 0, 0, 0), (113, .idiv, 0, 0, 0), (114, .sipush 800, 0, 0, 0), (117, .imul, 0, 0, 0), (118, .iload 9, 0, 0, 0), (120, .iconst 3, 0, 0, 0), (121, .if_icmp .ge 7, 128, 0, 0), (124, .iconst 0, 0, 0, 0), (125, .goto 16, 141, 0, 0), (128, .iload 9, 0, 0, 0), (130, .bipush 8, 0, 0, 0), (132, .if_icmp .ge 7, 139, 0, 0), (135, .iconst 3, 0, 0, 0), (136, .goto 5, 141, 0, 0), (139, .bipush 12, 0, 0, 0), (141, .iadd, 0, 0, 0)]
def a_c115_2 : List (Nat × aR) := [(142, .invokestatic 130, 113, 8, 1117), (145, .istore 8, 0, 0, 0), (147, .iinc 9 1, 0, 0, 0), (150, .goto (-74), 76, 0, 0), (153, .bipush 8, 0, 0, 0), (155, .aload_n 0, 0, 0, 0), (156, .iconst 0, 0, 0, 0), (157, .invokestatic 126, 97, 2, 1113), (160, .bipush 42, 0, 0, 0), (162, .invokestatic 86, 98, 2, 1121), (165, .iadd, 0, 0, 0), (166, .istore 9, 0, 0, 0), (168, .iconst 0, 0, 0, 0), (169, .istore 10, 0, 0, 0), (171, .iload 10, 0, 0, 0), (173, .iload 9, 0, 0, 0), (175, .if_icmp .ge 71, 246, 0, 0), (178, .iload 8, 0, 0, 0), (180, .ifCond .eq 66, 246, 0, 0), (183, .aload_n 1, 0, 0, 0), (184, .aload_n 2, 0, 0, 0), (185, .aload_n 3, 0, 0, 0), (186, .aload 4, 0, 0, 0), (188, .aload 5, 0, 0, 0), (190, .aload 6, 0, 0, 0), (192, .aload 7, 0, 0, 0), (194, .aload_n 0, 0, 0, 0), (195, .bipush 13, 0, 0, 0), (197, .iload 10, 0, 0, 0), (199, .iadd, 0, 0, 0), (200, .invokestatic 126, 97, 2, 1113), (203, .sipush 7919, 0, 0, 0), (206, .iload 10, 0, 0, 0), (208, .imul, 0, 0, 0), (209, .ixor, 0, 0, 0), (210, .invokestatic 130, 113, 8, 1117), (213, .ifCond .eq 24, 237, 0, 0), (216, .aload_n 1, 0, 0, 0), (217, .aload_n 2, 0, 0, 0), (218, .aload_n 3, 0, 0, 0)]
def a_c115_3 : List (Nat × aR) := [(219, .aload 4, 0, 0, 0), (221, .aload 5, 0, 0, 0), (223, .aload 6, 0, 0, 0), (225, .aload 7, 0, 0, 0), (227, .invokestatic 122, 114, 7, 315), (230, .ifCond .eq 7, 237, 0, 0), (233, .iconst 1, 0, 0, 0), (234, .goto 4, 238, 0, 0), (237, .iconst 0, 0, 0, 0), (238, .istore 8, 0, 0, 0), (240, .iinc 10 1, 0, 0, 0), (243, .goto (-72), 171, 0, 0), (246, .iload 8, 0, 0, 0), (248, .ifCond .eq 75, 323, 0, 0), (251, .aload_n 1, 0, 0, 0), (252, .bipush 16, 0, 0, 0), (254, .invokevirtual 118, 85, 2, 1004), (257, .bipush (-2), 0, 0, 0), (259, .if_icmp .ne 64, 323, 0, 0), (262, .aload_n 1, 0, 0, 0), (263, .iconst (-1), 0, 0, 0), (264, .invokevirtual 118, 85, 2, 1004), (267, .bipush (-2), 0, 0, 0), (269, .if_icmp .ne 54, 323, 0, 0), (272, .aload_n 1, 0, 0, 0), (273, .aload_n 2, 0, 0, 0), (274, .iconst 1, 0, 0, 0), (275, .iaload, 0, 0, 0), (276, .iconst 0, 0, 0, 0), (277, .invokevirtual 107, 78, 3, 410), (280, .iconst (-1), 0, 0, 0), (281, .if_icmp .ne 42, 323, 0, 0), (284, .aload_n 1, 0, 0, 0), (285, .aload_n 2, 0, 0, 0), (286, .iconst 2, 0, 0, 0), (287, .iaload, 0, 0, 0), (288, .iconst 0, 0, 0, 0), (289, .invokevirtual 110, 79, 3, 805), (292, .iconst (-1), 0, 0, 0), (293, .if_icmp .ne 30, 323, 0, 0)]
def a_c115_4 : List (Nat × aR) := [(296, .aload_n 1, 0, 0, 0), (297, .aload_n 2, 0, 0, 0), (298, .iconst 3, 0, 0, 0), (299, .iaload, 0, 0, 0), (300, .iconst 0, 0, 0, 0), (301, .invokevirtual 113, 80, 3, 820), (304, .iconst (-1), 0, 0, 0), (305, .if_icmp .ne 18, 323, 0, 0), (308, .aload_n 1, 0, 0, 0), (309, .bipush 8, 0, 0, 0), (311, .invokevirtual 116, 84, 2, 917), (314, .bipush (-2), 0, 0, 0), (316, .if_icmp .ne 7, 323, 0, 0), (319, .iconst 1, 0, 0, 0), (320, .goto 4, 324, 0, 0), (323, .iconst 0, 0, 0, 0), (324, .ireturn, 0, 0, 0)]
def a_c115 : List (Nat × aR) := a_c115_0 ++ (a_c115_1 ++ (a_c115_2 ++ (a_c115_3 ++ (a_c115_4))))
def a_ct_0 : List (List (Nat × aR)) := [a_c0, a_c1, a_c2, a_c3, a_c4, a_c5, a_c6, a_c7, a_c8, a_c9, a_c10, a_c11, a_c12, a_c13, a_c14, a_c15]
def a_ct_1 : List (List (Nat × aR)) := [a_c16, a_c17, a_c18, a_c19, a_c20, a_c21, a_c22, a_c23, a_c24, a_c25, a_c26, a_c27, a_c28, a_c29, a_c30, a_c31]
def a_ct_2 : List (List (Nat × aR)) := [a_c32, a_c33, a_c34, a_c35, a_c36, a_c37, a_c38, a_c39, a_c40, a_c41, a_c42, a_c43, a_c44, a_c45, a_c46, a_c47]
def a_ct_3 : List (List (Nat × aR)) := [a_c48, a_c49, a_c50, a_c51, a_c52, a_c53, a_c54, a_c55, a_c56, a_c57, a_c58, a_c59, a_c60, a_c61, a_c62, a_c63]
def a_ct_4 : List (List (Nat × aR)) := [a_c64, a_c65, a_c66, a_c67, a_c68, a_c69, a_c70, a_c71, a_c72, a_c73, a_c74, a_c75, a_c76, a_c77, a_c78, a_c79]
def a_ct_5 : List (List (Nat × aR)) := [a_c80, a_c81, a_c82, a_c83, a_c84, a_c85, a_c86, a_c87, a_c88, a_c89, a_c90, a_c91, a_c92, a_c93, a_c94, a_c95]
def a_ct_6 : List (List (Nat × aR)) := [a_c96, a_c97, a_c98, a_c99, a_c100, a_c101, a_c102, a_c103, a_c104, a_c105, a_c106, a_c107, a_c108, a_c109, a_c110, a_c111]
def a_ct_7 : List (List (Nat × aR)) := [a_c112, a_c113, a_c114]
def a_ctl : List (List (Nat × aR)) := a_ct_0 ++ (a_ct_1 ++ (a_ct_2 ++ (a_ct_3 ++ (a_ct_4 ++ (a_ct_5 ++ (a_ct_6 ++ (a_ct_7)))))))
def a_ct : List (List (Nat × aR)) := a_ctl ++ [a_c115]
theorem a_wchs_in : ∀ l ∈ a_wchs, ∀ w ∈ l, w ∈ wsL_law := List.forall_mem_cons.mpr ⟨fun _ h => List.mem_append_left _ (List.mem_append_left _ (List.mem_append_left _ (List.mem_append_left _ (List.mem_append_left _ (List.mem_append_left _ (List.mem_append_left _ (List.mem_append_left _ (List.mem_append_left _ h)))))))), List.forall_mem_cons.mpr ⟨fun _ h => List.mem_append_left _ (List.mem_append_left _ (List.mem_append_left _ (List.mem_append_left _ (List.mem_append_left _ (List.mem_append_left _ (List.mem_append_left _ (List.mem_append_left _ (List.mem_append_right _ (List.mem_append_left _ h))))))))), List.forall_mem_cons.mpr ⟨fun _ h => List.mem_append_left _ (List.mem_append_left _ (List.mem_append_left _ (List.mem_append_left _ (List.mem_append_left _ (List.mem_append_left _ (List.mem_append_left _ (List.mem_append_left _ (List.mem_append_right _ (List.mem_append_right _ (List.mem_append_left _ h)))))))))), List.forall_mem_cons.mpr ⟨fun _ h => List.mem_append_left _ (List.mem_append_left _ (List.mem_append_left _ (List.mem_append_left _ (List.mem_append_left _ (List.mem_append_left _ (List.mem_append_left _ (List.mem_append_left _ (List.mem_append_right _ (List.mem_append_right _ (List.mem_append_right _ (List.mem_append_left _ h))))))))))), List.forall_mem_cons.mpr ⟨fun _ h => List.mem_append_left _ (List.mem_append_left _ (List.mem_append_left _ (List.mem_append_left _ (List.mem_append_left _ (List.mem_append_left _ (List.mem_append_left _ (List.mem_append_left _ (List.mem_append_right _ (List.mem_append_right _ (List.mem_append_right _ (List.mem_append_right _ (List.mem_append_left _ h)))))))))))), List.forall_mem_cons.mpr ⟨fun _ h => List.mem_append_left _ (List.mem_append_left _ (List.mem_append_left _ (List.mem_append_left _ (List.mem_append_left _ (List.mem_append_left _ (List.mem_append_left _ (List.mem_append_left _ (List.mem_append_right _ (List.mem_append_right _ (List.mem_append_right _ (List.mem_append_right _ (List.mem_append_right _ (List.mem_append_left _ h))))))))))))), List.forall_mem_cons.mpr ⟨fun _ h => List.mem_append_left _ (List.mem_append_left _ (List.mem_append_left _ (List.mem_append_left _ (List.mem_append_left _ (List.mem_append_left _ (List.mem_append_left _ (List.mem_append_left _ (List.mem_append_right _ (List.mem_append_right _ (List.mem_append_right _ (List.mem_append_right _ (List.mem_append_right _ (List.mem_append_right _ (List.mem_append_left _ h)))))))))))))), List.forall_mem_cons.mpr ⟨fun _ h => List.mem_append_left _ (List.mem_append_left _ (List.mem_append_left _ (List.mem_append_left _ (List.mem_append_left _ (List.mem_append_left _ (List.mem_append_left _ (List.mem_append_left _ (List.mem_append_right _ (List.mem_append_right _ (List.mem_append_right _ (List.mem_append_right _ (List.mem_append_right _ (List.mem_append_right _ (List.mem_append_right _ (List.mem_append_left _ h))))))))))))))), List.forall_mem_cons.mpr ⟨fun _ h => List.mem_append_left _ (List.mem_append_left _ (List.mem_append_left _ (List.mem_append_left _ (List.mem_append_left _ (List.mem_append_left _ (List.mem_append_left _ (List.mem_append_left _ (List.mem_append_right _ (List.mem_append_right _ (List.mem_append_right _ (List.mem_append_right _ (List.mem_append_right _ (List.mem_append_right _ (List.mem_append_right _ (List.mem_append_right _ (List.mem_append_left _ h)))))))))))))))), List.forall_mem_cons.mpr ⟨fun _ h => List.mem_append_left _ (List.mem_append_left _ (List.mem_append_left _ (List.mem_append_left _ (List.mem_append_left _ (List.mem_append_left _ (List.mem_append_left _ (List.mem_append_left _ (List.mem_append_right _ (List.mem_append_right _ (List.mem_append_right _ (List.mem_append_right _ (List.mem_append_right _ (List.mem_append_right _ (List.mem_append_right _ (List.mem_append_right _ (List.mem_append_right _ (List.mem_append_left _ h))))))))))))))))), List.forall_mem_cons.mpr ⟨fun _ h => List.mem_append_left _ (List.mem_append_left _ (List.mem_append_left _ (List.mem_append_left _ (List.mem_append_left _ (List.mem_append_left _ (List.mem_append_left _ (List.mem_append_left _ (List.mem_append_right _ (List.mem_append_right _ (List.mem_append_right _ (List.mem_append_right _ (List.mem_append_right _ (List.mem_append_right _ (List.mem_append_right _ (List.mem_append_right _ (List.mem_append_right _ (List.mem_append_right _ (List.mem_append_left _ h)))))))))))))))))), List.forall_mem_cons.mpr ⟨fun _ h => List.mem_append_left _ (List.mem_append_left _ (List.mem_append_left _ (List.mem_append_left _ (List.mem_append_left _ (List.mem_append_left _ (List.mem_append_left _ (List.mem_append_left _ (List.mem_append_right _ (List.mem_append_right _ (List.mem_append_right _ (List.mem_append_right _ (List.mem_append_right _ (List.mem_append_right _ (List.mem_append_right _ (List.mem_append_right _ (List.mem_append_right _ (List.mem_append_right _ (List.mem_append_right _ (List.mem_append_left _ h))))))))))))))))))), List.forall_mem_cons.mpr ⟨fun _ h => List.mem_append_left _ (List.mem_append_left _ (List.mem_append_left _ (List.mem_append_left _ (List.mem_append_left _ (List.mem_append_left _ (List.mem_append_left _ (List.mem_append_left _ (List.mem_append_right _ (List.mem_append_right _ (List.mem_append_right _ (List.mem_append_right _ (List.mem_append_right _ (List.mem_append_right _ (List.mem_append_right _ (List.mem_append_right _ (List.mem_append_right _ (List.mem_append_right _ (List.mem_append_right _ (List.mem_append_right _ (List.mem_append_left _ h)))))))))))))))))))), List.forall_mem_cons.mpr ⟨fun _ h => List.mem_append_left _ (List.mem_append_left _ (List.mem_append_left _ (List.mem_append_left _ (List.mem_append_left _ (List.mem_append_left _ (List.mem_append_left _ (List.mem_append_left _ (List.mem_append_right _ (List.mem_append_right _ (List.mem_append_right _ (List.mem_append_right _ (List.mem_append_right _ (List.mem_append_right _ (List.mem_append_right _ (List.mem_append_right _ (List.mem_append_right _ (List.mem_append_right _ (List.mem_append_right _ (List.mem_append_right _ (List.mem_append_right _ (List.mem_append_left _ h))))))))))))))))))))), List.forall_mem_cons.mpr ⟨fun _ h => List.mem_append_left _ (List.mem_append_left _ (List.mem_append_left _ (List.mem_append_left _ (List.mem_append_left _ (List.mem_append_left _ (List.mem_append_left _ (List.mem_append_left _ (List.mem_append_right _ (List.mem_append_right _ (List.mem_append_right _ (List.mem_append_right _ (List.mem_append_right _ (List.mem_append_right _ (List.mem_append_right _ (List.mem_append_right _ (List.mem_append_right _ (List.mem_append_right _ (List.mem_append_right _ (List.mem_append_right _ (List.mem_append_right _ (List.mem_append_right _ (List.mem_append_left _ h)))))))))))))))))))))), List.forall_mem_cons.mpr ⟨fun _ h => List.mem_append_left _ (List.mem_append_left _ (List.mem_append_left _ (List.mem_append_left _ (List.mem_append_left _ (List.mem_append_left _ (List.mem_append_left _ (List.mem_append_left _ (List.mem_append_right _ (List.mem_append_right _ (List.mem_append_right _ (List.mem_append_right _ (List.mem_append_right _ (List.mem_append_right _ (List.mem_append_right _ (List.mem_append_right _ (List.mem_append_right _ (List.mem_append_right _ (List.mem_append_right _ (List.mem_append_right _ (List.mem_append_right _ (List.mem_append_right _ (List.mem_append_right _ (List.mem_append_left _ h))))))))))))))))))))))), List.forall_mem_cons.mpr ⟨fun _ h => List.mem_append_left _ (List.mem_append_left _ (List.mem_append_left _ (List.mem_append_left _ (List.mem_append_left _ (List.mem_append_left _ (List.mem_append_left _ (List.mem_append_left _ (List.mem_append_right _ (List.mem_append_right _ (List.mem_append_right _ (List.mem_append_right _ (List.mem_append_right _ (List.mem_append_right _ (List.mem_append_right _ (List.mem_append_right _ (List.mem_append_right _ (List.mem_append_right _ (List.mem_append_right _ (List.mem_append_right _ (List.mem_append_right _ (List.mem_append_right _ (List.mem_append_right _ (List.mem_append_right _ (List.mem_append_left _ h)))))))))))))))))))))))), List.forall_mem_cons.mpr ⟨fun _ h => List.mem_append_left _ (List.mem_append_left _ (List.mem_append_left _ (List.mem_append_left _ (List.mem_append_left _ (List.mem_append_left _ (List.mem_append_left _ (List.mem_append_left _ (List.mem_append_right _ (List.mem_append_right _ (List.mem_append_right _ (List.mem_append_right _ (List.mem_append_right _ (List.mem_append_right _ (List.mem_append_right _ (List.mem_append_right _ (List.mem_append_right _ (List.mem_append_right _ (List.mem_append_right _ (List.mem_append_right _ (List.mem_append_right _ (List.mem_append_right _ (List.mem_append_right _ (List.mem_append_right _ (List.mem_append_right _ (List.mem_append_left _ h))))))))))))))))))))))))), List.forall_mem_cons.mpr ⟨fun _ h => List.mem_append_left _ (List.mem_append_left _ (List.mem_append_left _ (List.mem_append_left _ (List.mem_append_left _ (List.mem_append_left _ (List.mem_append_left _ (List.mem_append_left _ (List.mem_append_right _ (List.mem_append_right _ (List.mem_append_right _ (List.mem_append_right _ (List.mem_append_right _ (List.mem_append_right _ (List.mem_append_right _ (List.mem_append_right _ (List.mem_append_right _ (List.mem_append_right _ (List.mem_append_right _ (List.mem_append_right _ (List.mem_append_right _ (List.mem_append_right _ (List.mem_append_right _ (List.mem_append_right _ (List.mem_append_right _ (List.mem_append_right _ (List.mem_append_left _ h)))))))))))))))))))))))))), List.forall_mem_cons.mpr ⟨fun _ h => List.mem_append_left _ (List.mem_append_left _ (List.mem_append_left _ (List.mem_append_left _ (List.mem_append_left _ (List.mem_append_left _ (List.mem_append_left _ (List.mem_append_left _ (List.mem_append_right _ (List.mem_append_right _ (List.mem_append_right _ (List.mem_append_right _ (List.mem_append_right _ (List.mem_append_right _ (List.mem_append_right _ (List.mem_append_right _ (List.mem_append_right _ (List.mem_append_right _ (List.mem_append_right _ (List.mem_append_right _ (List.mem_append_right _ (List.mem_append_right _ (List.mem_append_right _ (List.mem_append_right _ (List.mem_append_right _ (List.mem_append_right _ (List.mem_append_right _ (h))))))))))))))))))))))))))), fun _ h => absurd h List.not_mem_nil⟩⟩⟩⟩⟩⟩⟩⟩⟩⟩⟩⟩⟩⟩⟩⟩⟩⟩⟩⟩
end
section
/-! the runs of the abstract machine; what a world is; how it moves -/
def a_look (q pc : Nat) : Option aR := (a_ct.getD q []).lookup pc
def a_rt (q : Nat) : Option FieldType := match a_mt[q]? with
  | some M => M.2.2.2.1
  | none => none
def a_ml (q : Nat) : Nat := match a_mt[q]? with
  | some M => M.2.2.1
  | none => 0
def a_ent (q : Nat) (as : List aV) : aL := as.map some ++ List.replicate (a_ml q - as.length) none
def a_ci (q : Nat) : Nat := match a_mt[q]? with
  | some M => M.2.2.2.2.2.1
  | none => 99
/-- the receiver is of the method's class -/
def a_rcv (q : Nat) (as : List aV) : Bool := match as with
  | .inr (c, _) :: _ => decide (a_kd c = (0, a_ci q))
  | _ => false
/-- a call of a method of ours: its arguments, what stays on the stack -/
def a_call (ins : Instr) (a n : Nat) (st : List aV) : Option (List aV × List aV) := match ins with
  | .invokevirtual _ => if (n ≤ st.length ∧ st.length ≤ n + 8) ∧ a_rcv a (st.take n).reverse = true then some ((st.take n).reverse, st.drop n) else none
  | .invokestatic _ => if a < 1000 ∧ n ≤ st.length ∧ st.length ≤ n + 8 then some ((st.take n).reverse, st.drop n) else none
  | _ => none
def a_run : Nat → Nat → Nat → aL → List aV → aM → aO
  | 0, _, _, _, _, _ => none
  | n + 1, q, pc, ls, st, m => match a_look q pc with
    | none => none
    | some (ins, a, b, _) => match a_step ins a b pc ls st m with
      | some (pc', ls', st', m') => a_run n q pc' ls' st' m'
      | none => match a_call ins a b st with
        | some (as, t) => match a_run n a 0 (a_ent a as) [] m with
          | some (r, m') => a_run n q (pc + 3) ls (r.toList ++ t) m'
          | none => none
        | none => match a_ret (a_rt q) ins st with
          | some r => some (r, m)
          | none => none
abbrev aG : Type := ClassId × ClassId × ClassId × (Nat → Nat → Nat)
def a_cv (ad : Nat → Nat → Nat) (v : aV) : Value := match v with
  | .inl x => .int x
  | .inr (c, b) => .ref (ad c b)
theorem a_cv_cat (ad : Nat → Nat → Nat) (v : aV) : (a_cv ad v).category = 1 := by
  cases v <;> rfl
def a_vr (c b : Nat) : Prop := (c < 27 ∧ b < 10) ∨ (27 ≤ c ∧ c < 47 ∧ b = 0)
def a_vv (v : aV) : Prop := match v with
  | .inl _ => True
  | .inr (c, b) => a_vr c b
theorem a_vcons {v : aV} {st : List aV} (h : a_vv v) (hv : ∀ u ∈ st, a_vv u) : ∀ u ∈ v :: st, a_vv u := fun u hu => (List.mem_cons.mp hu).elim (fun q => q ▸ h) (hv u)
theorem a_vtl {v : aV} {st : List aV} (hv : ∀ u ∈ v :: st, a_vv u) : ∀ u ∈ st, a_vv u := fun u hu => hv u (List.mem_cons_of_mem _ hu)
theorem a_vhd {v : aV} {st : List aV} (hv : ∀ u ∈ v :: st, a_vv u) : a_vv v := hv v List.mem_cons_self
def a_fv (ad : Nat → Nat → Nat) (m : aM) (c b k : Nat) : Value := match a_fr c b k with
  | some r => .ref (ad r.1 r.2)
  | none => .int (m c b k)
def a_cell (g : aG) (m : aM) (c b : Nat) : va_E := match (a_kd c).1 with
  | 0 => .inr ((a_kd c).2, (List.range (a_nf c)).map (a_fv g.2.2.2 m c b))
  | 1 => .inl (g.1, (a_kd c).2, .inl (m c b))
  | 2 => .inl (g.2.1, (a_kd c).2, .inl (m c b))
  | _ => .inl (g.2.2.1, (a_kd c).2, .inr (.inr (.inr (.inr (fun j => some (g.2.2.2 0 (a_el c j)))))))
def a_rc (i : Nat) : Nat × Nat := if i < 270 then (i % 27, i / 27) else (i - 243, 0)
def a_ri (c b : Nat) : Nat := if c < 27 then 27 * b + c else c + 243
def a_ws (g : aG) (m : aM) : va_W := (List.range 283).map fun i => (g.2.2.2 (a_rc i).1 (a_rc i).2, a_cell g m (a_rc i).1 (a_rc i).2)
theorem a_rc_ri {c b : Nat} (h : a_vr c b) (hc : c < 40) : a_rc (a_ri c b) = (c, b) ∧ a_ri c b < 283 := by
  rcases h with ⟨h1, h2⟩ | ⟨h1, h2, h3⟩
  · have e : a_ri c b = 27 * b + c := if_pos h1
    rw [e]
    refine ⟨?_, by omega⟩
    unfold a_rc
    rw [if_pos (by omega), show (27 * b + c) % 27 = c by omega, show (27 * b + c) / 27 = b by omega]
  · have e : a_ri c b = c + 243 := if_neg (by omega)
    rw [e, h3]
    refine ⟨?_, by omega⟩
    unfold a_rc
    rw [if_neg (by omega), show c + 243 - 243 = c by omega]
theorem a_ri_rc {i : Nat} (h : i < 283) : a_ri (a_rc i).1 (a_rc i).2 = i := by
  unfold a_ri a_rc
  by_cases h1 : i < 270
  · rw [if_pos h1]
    dsimp only
    rw [if_pos (by omega)]
    omega
  · rw [if_neg h1]
    dsimp only
    rw [if_neg (by omega)]
    omega
theorem a_ws_get (g : aG) (m : aM) {c b : Nat} (h : a_vr c b) (hc : c < 40) : (a_ws g m)[a_ri c b]? = some (g.2.2.2 c b, a_cell g m c b) := by
  obtain ⟨h1, h2⟩ := a_rc_ri h hc
  rw [a_ws, List.getElem?_map, List.getElem?_range h2]
  show some (g.2.2.2 (a_rc (a_ri c b)).1 (a_rc (a_ri c b)).2, a_cell g m (a_rc (a_ri c b)).1 (a_rc (a_ri c b)).2) = _
  rw [h1]
theorem a_cell_congr (g : aG) {m m' : aM} {c b : Nat} (h : m' c b = m c b) : a_cell g m' c b = a_cell g m c b := by
  unfold a_cell a_fv
  rw [h]
theorem a_ws_set (g : aG) {m m' : aM} {c b : Nat} (h : a_vr c b) (hc : c < 40) (hm : ∀ c' b', (c' ≠ c ∨ b' ≠ b) → m' c' b' = m c' b') {e : va_E} (he : e = a_cell g m' c b) : (a_ws g m).set (a_ri c b) (g.2.2.2 c b, e) = a_ws g m' := by
  subst he
  obtain ⟨h1, h2⟩ := a_rc_ri h hc
  apply List.ext_getElem?
  intro j
  by_cases hj : j = a_ri c b
  · subst hj
    rw [List.getElem?_set_self (by rw [a_ws, List.length_map, List.length_range]; exact h2), a_ws_get g m' h hc]
  · rw [List.getElem?_set_ne (Ne.symm hj), a_ws, a_ws, List.getElem?_map, List.getElem?_map]
    by_cases hl : j < 283
    · rw [List.getElem?_range hl]
      show some (g.2.2.2 (a_rc j).1 (a_rc j).2, a_cell g m (a_rc j).1 (a_rc j).2) = some (g.2.2.2 (a_rc j).1 (a_rc j).2, a_cell g m' (a_rc j).1 (a_rc j).2)
      rw [a_cell_congr g (hm (a_rc j).1 (a_rc j).2 ?_)]
      by_cases q : (a_rc j).1 = c
      · refine Or.inr fun q2 => hj ?_
        rw [← a_ri_rc hl, q, q2]
      · exact Or.inl q
    · rw [List.getElem?_eq_none (by rw [List.length_range]; omega)]
      rfl
def a_tys (g : aG) : List (ClassId × FieldType) := [(g.1, .int), (g.2.1, .boolean), (g.2.2.1, .object "VacantAir$State")]
def a_A (base : Nat) : Nat → Prop := fun q => base ≤ q
def a_Dyn (base : Nat) (D : va_G) (g : aG) (m : aM) (H : Heap) : Prop := va_P D vwCl (a_ws g m) H ∧ va_D (a_A base) (a_ws g m)
def a_Sta (base : Nat) (D : va_G) (g : aG) (m : aM) (U : State) : Prop := va_K D vwCl (a_tys g) U ∧ (∀ c, 41 ≤ c → c < 46 → va_Z "VacantAir" (a_sn c) "[I" (.ref (g.2.2.2 c 0)) (a_A base) U U.heap ∧ va_T .int (g.2.2.2 c 0) (a_kd c).2 (fun j => .int (m c 0 j)) (a_A base) U U.heap) ∧ (va_X (g.2.2.2 46 0) (m 47 0 0).toNatClampNeg (m 46 0) U U.heap ∧ g.2.2.2 46 0 < base ∧ base ≤ U.heap.size) ∧ ∀ w ∈ a_nst, va_Nw w U
theorem a_Sta_same {base : Nat} {D : va_G} {g : aG} {m : aM} {u U : State} (h1 : u.vm = U.vm) (h2 : u.heap = U.heap) (h : a_Sta base D g m u) : a_Sta base D g m U := by
  have hvm : u.vm.Alike U.vm := h1 ▸ Vm.Alike.refl u.vm
  obtain ⟨a1, a2, ⟨a3, a4, a5⟩, a6⟩ := h
  refine ⟨a1.moved hvm, fun c q1 q2 => ⟨?_, ?_⟩, ⟨?_, a4, h2 ▸ a5⟩, fun w hw => va_Nw.same ?_ h1 (a6 w hw)⟩
  · rw [← h2]; exact (a2 c q1 q2).1.moved hvm
  · rw [← h2]; exact (a2 c q1 q2).2.moved hvm
  · rw [← h2]; exact a3.moved hvm
  · exact (List.all_eq_true.mp (show a_nst.all (fun w => w.onTables) = true by decide +kernel) w hw)
def a_isN (w : Cond) : Bool := match w with
  | .methodLinkNest _ _ _ _ => true
  | .fieldLinkNest _ _ _ _ _ _ => true
  | _ => false
theorem a_nst_warm {s U : State} (hW : s.WarmedH U.vm) : (∀ w ∈ a_nst, va_Nw w s) → ∀ w ∈ a_nst, va_Nw w U := by
  intro h w hw
  have hk : a_isN w = true := List.all_eq_true.mp (show a_nst.all a_isN = true by decide +kernel) w hw
  have h1 := h w hw
  cases w with
  | methodLinkNest a b c d => exact va_Nw.warmM hW h1
  | fieldLinkNest a b c d e f => exact va_Nw.warmF hW h1
  | _ => cases hk
theorem a_Sta_moved {base : Nat} {D : va_G} {g : aG} {m m' : aM} {s U : State} (hW : s.WarmedH U.vm) (hz : s.heap.size ≤ U.heap.size) (hq : ∀ q : Nat, q < s.heap.size → ¬ a_A base q → U.heap[q]? = s.heap[q]?) (hm : ∀ c, 41 ≤ c → m' c = m c) (h : a_Sta base D g m s) : a_Sta base D g m' U := by
  have hvm := hW.alike
  obtain ⟨a1, a2, ⟨a3, a4, a5⟩, a6⟩ := h
  refine ⟨a1.moved hvm, fun c q1 q2 => ⟨?_, ?_⟩, ⟨?_, a4, Nat.le_trans a5 hz⟩, a_nst_warm hW a6⟩
  · exact ((a2 c q1 q2).1.kept hq).moved hvm
  · rw [hm c q1]
    exact ((a2 c q1 q2).2.kept hq).moved hvm
  · rw [hm 46 (by omega), hm 47 (by omega)]
    exact (a3.kept (hq _ (Nat.lt_of_lt_of_le a4 a5) (Nat.not_le.mpr a4))).moved hvm
/-! the locals -/
def a_lv (ad : Nat → Nat → Nat) (ls : aL) : List (Nat × Value) := (List.range ls.length).filterMap fun i => match ls[i]? with
  | some (some v) => some (i, a_cv ad v)
  | _ => none
def a_LS (g : aG) (ls : aL) (ls' : Array Slot) (n : Nat) : Prop := ls'.size = n ∧ lv_wf ls' ∧ ls.length ≤ n ∧ ∀ (i : Nat) (v : aV), ls[i]? = some (some v) → ls'[i]? = some (.val (a_cv g.2.2.2 v)) ∧ a_vv v
theorem a_lv_mem {ad : Nat → Nat → Nat} {ls : aL} {i : Nat} {v : aV} (h : ls[i]? = some (some v)) : (i, a_cv ad v) ∈ a_lv ad ls := by
  have hi := (List.getElem?_eq_some_iff.mp h).1
  exact List.mem_filterMap.mpr ⟨i, List.mem_range.mpr hi, by rw [h]⟩
theorem a_lv_has {g : aG} {ls : aL} {ls' : Array Slot} {n : Nat} (h : a_LS g ls ls' n) : lv_has ls' n (a_lv g.2.2.2 ls) := by
  refine ⟨h.1, h.2.1, fun q hq => ?_⟩
  obtain ⟨i, -, hi⟩ := List.mem_filterMap.mp hq
  split at hi
  · rename_i v e
    cases hi
    exact (h.2.2.2 i v e).1
  · cases hi
theorem a_LS_store {g : aG} {ls : aL} {ls' ls2 : Array Slot} {n k : Nat} {v : aV} (h : a_LS g ls ls' n) (hv : a_vv v) (h2 : lv_has ls2 n ((k, a_cv g.2.2.2 v) :: (a_lv g.2.2.2 ls).filter (fun q => !(q.1 == k) && !(q.1 + 1 == k && q.2.category == 2)))) : a_LS g (ls.set k (some v)) ls2 n := by
  refine ⟨h2.1, h2.2.1, by rw [List.length_set]; exact h.2.2.1, fun i u hu => ?_⟩
  by_cases hik : i = k
  · subst hik
    have hi : i < ls.length := by
      have := (List.getElem?_eq_some_iff.mp hu).1
      rwa [List.length_set] at this
    rw [List.getElem?_set_self hi] at hu
    cases hu
    exact ⟨h2.2.2 _ List.mem_cons_self, hv⟩
  · rw [List.getElem?_set_ne (Ne.symm hik)] at hu
    refine ⟨h2.2.2 (i, a_cv g.2.2.2 u) (List.mem_cons_of_mem _ (List.mem_filter.mpr ⟨a_lv_mem hu, ?_⟩)), (h.2.2.2 i u hu).2⟩
    simp [hik, a_cv_cat]
theorem a_LS_entry {g : aG} (as : List aV) {n : Nat} (hn : as.length ≤ n) (hv : ∀ v ∈ as, a_vv v) {ls' : Array Slot} (h : lv_has ls' n (lv_args 0 (as.map (a_cv g.2.2.2)))) : a_LS g (as.map some ++ List.replicate (n - as.length) none) ls' n := by
  refine ⟨h.1, h.2.1, by simp; omega, fun i v hi => ?_⟩
  have key : ∀ (as : List aV) (j i : Nat) (v : aV), as[i]? = some v → (j + i, a_cv g.2.2.2 v) ∈ lv_args j (as.map (a_cv g.2.2.2)) := by
    intro as
    induction as with
    | nil => intro j i v h; simp at h
    | cons a as ih =>
      intro j i v h
      cases i with
      | zero =>
        rw [List.getElem?_cons_zero] at h
        cases h
        exact List.mem_cons_self
      | succ i =>
        rw [List.getElem?_cons_succ] at h
        have := ih (j + 1) i v h
        rw [List.map_cons, lv_args, if_neg (by rw [a_cv_cat]; decide)]
        rw [show j + (i + 1) = j + 1 + i by omega]
        exact List.mem_cons_of_mem _ this
  by_cases hl : i < (as.map some).length
  · rw [List.getElem?_append_left hl, List.getElem?_map] at hi
    cases ha : as[i]? with
    | none => rw [ha] at hi; cases hi
    | some u =>
      rw [ha] at hi
      have hu : u = v := Option.some.inj (Option.some.inj hi)
      subst hu
      have := key as 0 i u ha
      rw [Nat.zero_add] at this
      exact ⟨h.2.2 _ this, hv u (List.mem_of_getElem? ha)⟩
  · rw [List.getElem?_append_right (by omega)] at hi
    have := List.eq_of_mem_replicate (List.mem_of_getElem? hi)
    cases this
/-! facts of the tables, by looking at all of them -/
theorem a_kd_out {c : Nat} (h : 47 ≤ c) : a_kd c = (9, 0) := by
  unfold a_kd
  rw [List.getD_eq_getElem?_getD, List.getElem?_eq_none (by show (47 : Nat) ≤ c; exact h)]
  rfl
theorem a_kd_lt {c t : Nat} (h : (a_kd c).1 = t) (ht : t ≤ 5) : c < 47 := by
  by_cases hc : c < 47
  · exact hc
  · rw [a_kd_out (by omega)] at h
    change 9 = t at h
    omega
theorem a_kd_3 {c : Nat} (h : (a_kd c).1 ≤ 3) : c < 40 := by
  have h47 := a_kd_lt (c := c) rfl (by omega)
  have := (show ∀ c, c < 47 → (a_kd c).1 ≤ 3 → c < 40 by decide +kernel) c h47
  exact this h
theorem a_kd_4 {c : Nat} (h : (a_kd c).1 = 4) : 41 ≤ c ∧ c < 46 :=
  (show ∀ c, c < 47 → (a_kd c).1 = 4 → 41 ≤ c ∧ c < 46 by decide +kernel) c (a_kd_lt h (by omega)) h
theorem a_kd_5 {c : Nat} (h : (a_kd c).1 = 5) : c = 46 :=
  (show ∀ c, c < 47 → (a_kd c).1 = 5 → c = 46 by decide +kernel) c (a_kd_lt h (by omega)) h
theorem a_kd_nf {c ci : Nat} (h : a_kd c = (0, ci)) {q : vw_C} (hq : vwCl[ci]? = some q) : a_nf c = q.2.2 := by
  have h47 : c < 47 := a_kd_lt (t := 0) (by rw [h]) (by omega)
  have := (show ∀ c, c < 47 → (a_kd c).1 = 0 → (vwCl[(a_kd c).2]?).map (fun q => q.2.2) = some (a_nf c) by decide +kernel) c h47 (by rw [h])
  rw [h, hq] at this
  exact (Option.some.inj this).symm
theorem a_ft_ok {c b k c' b' : Nat} (hv : a_vr c b) (hc : c < 40) (h : a_fr c b k = some (c', b')) : a_vr c' b' := by
  have hk : k < 13 := by
    by_cases hk : k < 13
    · exact hk
    · have hn : a_ft c k = none := by
        unfold a_ft
        rw [List.getD_eq_getElem?_getD, List.getElem?_eq_none]
        · rfl
        · have := (show ∀ c, c < 40 → (a_frs.getD c []).length ≤ 13 by decide +kernel) c hc
          omega
      rw [a_fr, hn] at h
      cases h
  have key := (show ∀ c, c < 40 → ∀ k, k < 13 → (match a_ft c k with | none => true | some (c', none) => decide (c' < 27) && decide (c < 27) | some (c', some d) => (decide (c' < 27) && decide (d < 10)) || (decide (27 ≤ c') && decide (c' < 47) && decide (d = 0))) = true by decide +kernel) c hc k hk
  unfold a_fr at h
  split at h
  · cases h
  · rename_i q
    rw [q] at key
    simp only [Bool.and_eq_true, decide_eq_true_eq] at key
    cases h
    rcases hv with ⟨h1, h2⟩ | ⟨h1, h2, h3⟩
    · exact Or.inl ⟨key.1, h2⟩
    · omega
  · rename_i q
    rw [q] at key
    simp only [Bool.or_eq_true, Bool.and_eq_true, decide_eq_true_eq] at key
    cases h
    rcases key with ⟨h1, h2⟩ | ⟨⟨h1, h2⟩, h3⟩
    · exact Or.inl ⟨h1, h2⟩
    · exact Or.inr ⟨h1, h2, h3⟩
theorem a_cls {ci : Nat} {C : String} {T : u_T} {N : Nat} (h : vwCl[ci]? = some (C, T, N)) : (∀ w ∈ u_ws C T N, w ∈ wsL_law) ∧ (∀ a, a < N → ∀ b, b < N → a ≠ b → (T a).2.1 ≠ (T b).2.1) ∧ ∃ ty : Nat → FieldType, ∀ k, k < N → parseFieldDescriptor (T k).2.2.1 = some (ty k) := by
  match ci, h with
  | 0, h => cases h; exact ⟨inlX0, nmX0, tyX0, tyX0_ok⟩
  | 1, h => cases h; exact ⟨inlX1, nmX1, tyX1, tyX1_ok⟩
  | 2, h => cases h; exact ⟨inlX2, nmX2, tyX2, tyX2_ok⟩
  | 3, h => cases h; exact ⟨inlX3, nmX3, tyX3, tyX3_ok⟩
  | 4, h => cases h; exact ⟨inlX4, nmX4, tyX4, tyX4_ok⟩
  | 5, h => cases h; exact ⟨inlX5, nmX5, tyX5, tyX5_ok⟩
  | 6, h => cases h; exact ⟨inlX6, nmX6, tyX6, tyX6_ok⟩
  | k + 7, h => simp [vwCl] at h
theorem a_wsp {w : Nat} {c : Cond} (h : a_w w c = true) : c ∈ wsL_law := by
  have h1 := List.mem_of_getElem? (of_decide_eq_true h)
  rw [List.getD_eq_getElem?_getD] at h1
  cases hk : a_wchs[w / 100]? with
  | none => rw [hk] at h1; exact absurd h1 List.not_mem_nil
  | some l => rw [hk] at h1; exact a_wchs_in l (List.mem_of_getElem? hk) c h1
theorem a_nwp {w : Nat} {c : Cond} (h : a_nw w c = true) : c ∈ a_nst := List.mem_of_getElem? (of_decide_eq_true h)
end
section
/-! the abstract machine's step, sound against the machine -/
theorem a_in_ln {m : aM} {c : Nat} {i : Int32} (hc : c ≠ 46) (h : a_in i (a_ln m c) = true) : vp_in i (a_kd c).2 := by
  have := a_in_vp h
  rwa [a_ln, if_neg hc] at this
theorem a_fv_up (ad : Nat → Nat → Nat) (m : aM) (c b k : Nat) (x : Int32) (n : Nat) (hk : a_fr c b k = none) : ((List.range n).map (a_fv ad m c b)).set k (.int x) = (List.range n).map (a_fv ad (a_up m c b k x) c b) := by
  apply List.ext_getElem?
  intro j
  by_cases hj : j = k
  · subst hj
    by_cases hn : j < n
    · rw [List.getElem?_set_self (by simpa using hn), List.getElem?_map, List.getElem?_range hn]
      show some _ = some _
      rw [a_fv, hk]
      simp [a_up]
    · rw [List.getElem?_eq_none (by simp; omega), List.getElem?_eq_none (by simp; omega)]
  · rw [List.getElem?_set_ne (Ne.symm hj), List.getElem?_map, List.getElem?_map]
    by_cases hn : j < n
    · rw [List.getElem?_range hn]
      show some _ = some _
      congr 1
      unfold a_fv
      split
      · rfl
      · simp [a_up, hj]
    · rw [List.getElem?_eq_none (by simp; omega)]
      rfl
theorem a_up_off (m : aM) (c b k : Nat) (x : Int32) (c' b' : Nat) (h : c' ≠ c ∨ b' ≠ b) : a_up m c b k x c' b' = m c' b' := by
  funext j
  unfold a_up
  rw [if_neg]
  rintro ⟨h1, h2, -⟩
  rcases h with h | h
  · exact h h1
  · exact h h2
theorem a_up_c (m : aM) (c b k : Nat) (x : Int32) (c' : Nat) (h : c' ≠ c) : a_up m c b k x c' = m c' := by
  funext b'
  exact a_up_off m c b k x c' b' (Or.inl h)
theorem a_up_row (m : aM) (c b k : Nat) (x : Int32) : a_up m c b k x c b = upd (m c b) k x := by
  funext j
  simp [a_up, upd]
theorem a_wmin1 : Cond.static Lib.Math.min.name ∈ wsL_law := List.mem_of_getElem? (i := 139) (by decide +kernel)
theorem a_wmin2 : Cond.initialized "java/lang/Math" ∈ wsL_law := List.mem_of_getElem? (i := 140) (by decide +kernel)
theorem a_wmin3 : Cond.code Lib.Math.min.name Lib.Math.min.code 2 (some .int) ∈ wsL_law := List.mem_of_getElem? (i := 141) (by decide +kernel)
theorem a_wcpy1 : Cond.native arraycopyName ∈ wsL_law := List.mem_of_getElem? (i := 143) (by decide +kernel)
theorem a_wcpy2 : Cond.static arraycopyName ∈ wsL_law := List.mem_of_getElem? (i := 144) (by decide +kernel)
theorem a_wcpy3 : Cond.initialized "java/lang/System" ∈ wsL_law := List.mem_of_getElem? (i := 145) (by decide +kernel)
section SND
variable {p : Program} {l : Launch} {e : Env} {R : Room} {s : State} {mI : MethodId} {args : Array Value} {below : List Frame} {meth : Method} {cd : Code} {cells slots : Nat} {Q : State → Prop} {nL base : Nat} {D : va_G} {g : aG} {M : aMt}
set_option maxHeartbeats 8000000 in
theorem a_snd_step (hexec : p.tables.exec = Jvm.exec) (hb : cd.code = M.2.1) (hml : cd.maxLocals = nL) (hown : s.vm.findClass M.1.cls = some mI.cls) (hts : ∀ w ∈ wsL_law, w.before args s = true)
    (hR : M.2.2.2.2.1 ≤ R.frames ∧ 28 * M.2.2.2.2.1 ≤ R.locals ∧ cells ≤ R.cells ∧ slots ≤ R.slots) {m : aM} (hSt : a_Sta base D g m s) {H : Heap} {locs : List Loc} (hDy : a_Dyn base D g m H) (hS : va_S (a_A base) s.heap H locs)
    {ls' : Array Slot} {ls : aL} {st : List aV} (hl : a_LS g ls ls' nL) (hv : ∀ v ∈ st, a_vv v) {pc a b w : Nat} {ins : Instr} (hc : a_chk M pc (ins, a, b, w) = true) {pc1 : Nat} {ls1 : aL} {st1 : List aV} {m1 : aM} (h : a_step ins a b pc ls st m = some (pc1, ls1, st1, m1))
    (k : ∀ (H1 : Heap) (locs1 : List Loc) (ls1' : Array Slot), a_Dyn base D g m1 H1 → va_S (a_A base) s.heap H1 locs1 → a_LS g ls1 ls1' nL → (∀ v ∈ st1, a_vv v) → (∀ c, 41 ≤ c → m1 c = m c) → W p l e R s mI args below meth cd H1 locs1 cells slots Q (F0 mI pc1 ls1' (st1.map (a_cv g.2.2.2)))) :
    W p l e R s mI args below meth cd H locs cells slots Q (F0 mI pc ls' (st.map (a_cv g.2.2.2))) := by
  unfold a_chk at hc
  rw [Bool.and_eq_true] at hc
  obtain ⟨hdg, hc2⟩ := hc
  have hdg := of_decide_eq_true hdg
  cases ins with
  | aload_n kk =>
    obtain ⟨c1, d1, hk, h⟩ := a_lr_i h
    cases h
    exact lv_aload_n hexec hb hdg rfl (hl.2.2.2 _ _ hk).1 (k H locs ls' hDy hS hl (a_vcons (hl.2.2.2 _ _ hk).2 hv) (fun _ _ => rfl))
  | aload kk =>
    obtain ⟨c1, d1, hk, h⟩ := a_lr_i h
    cases h
    exact lv_aload hexec hb hdg (hl.2.2.2 _ _ hk).1 (k H locs ls' hDy hS hl (a_vcons (hl.2.2.2 _ _ hk).2 hv) (fun _ _ => rfl))
  | iload_n kk =>
    obtain ⟨x, hk, h⟩ := a_l1_i h
    cases h
    exact lv_iload_n hexec hb hdg rfl (hl.2.2.2 _ _ hk).1 (k H locs ls' hDy hS hl (a_vcons (v := .inl x) trivial hv) (fun _ _ => rfl))
  | iload kk =>
    obtain ⟨x, hk, h⟩ := a_l1_i h
    cases h
    exact lv_iload hexec hb hdg (hl.2.2.2 _ _ hk).1 (k H locs ls' hDy hS hl (a_vcons (v := .inl x) trivial hv) (fun _ _ => rfl))
  | istore_n kk =>
    obtain ⟨x, t, rfl, h⟩ := a_p1_i h
    obtain ⟨hlt, h⟩ := a_if_i h
    cases h
    exact lv_istore_n hexec hb hdg rfl (a_lv_has hl) (Nat.lt_of_lt_of_le hlt hl.2.2.1) rfl (fun ls2 h2 => k H locs ls2 hDy hS (a_LS_store (v := .inl x) hl trivial h2) (a_vtl hv) (fun _ _ => rfl))
  | istore kk =>
    obtain ⟨x, t, rfl, h⟩ := a_p1_i h
    obtain ⟨hlt, h⟩ := a_if_i h
    cases h
    exact lv_istore hexec hb hdg (a_lv_has hl) (Nat.lt_of_lt_of_le hlt hl.2.2.1) rfl (fun ls2 h2 => k H locs ls2 hDy hS (a_LS_store (v := .inl x) hl trivial h2) (a_vtl hv) (fun _ _ => rfl))
  | astore_n kk =>
    obtain ⟨c1, d1, t, rfl, h⟩ := a_pr_i h
    obtain ⟨hlt, h⟩ := a_if_i h
    cases h
    exact lv_astore_n hexec hb hdg rfl (a_lv_has hl) (Nat.lt_of_lt_of_le hlt hl.2.2.1) rfl (fun ls2 h2 => k H locs ls2 hDy hS (a_LS_store (v := .inr (c1, d1)) hl (a_vhd hv) h2) (a_vtl hv) (fun _ _ => rfl))
  | iinc kk n =>
    obtain ⟨x, hk, h⟩ := a_l1_i h
    obtain ⟨hlt, h⟩ := a_if_i h
    cases h
    obtain ⟨j, hj⟩ := List.getElem?_of_mem (a_lv_mem (ad := g.2.2.2) hk)
    exact lv_iinc (k := j) hexec hb hdg (a_lv_has hl) hj rfl (Nat.lt_of_lt_of_le hlt hl.2.2.1) rfl (fun ls2 h2 => k H locs ls2 hDy hS (a_LS_store (v := .inl (x + Int32.ofInt n)) hl trivial h2) hv (fun _ _ => rfl))
  | iconst n =>
    cases h
    exact lv_iconst hexec hb hdg rfl (k H locs ls' hDy hS hl (a_vcons (v := .inl _) trivial hv) (fun _ _ => rfl))
  | bipush n =>
    cases h
    exact lv_bipush hexec hb hdg rfl (k H locs ls' hDy hS hl (a_vcons (v := .inl _) trivial hv) (fun _ _ => rfl))
  | sipush n =>
    cases h
    exact lv_sipush hexec hb hdg rfl (k H locs ls' hDy hS hl (a_vcons (v := .inl _) trivial hv) (fun _ _ => rfl))
  | iadd =>
    obtain ⟨x, y, t, rfl, h⟩ := a_p2_i h
    cases h
    exact lv_iadd hexec hb hdg (k H locs ls' hDy hS hl (a_vcons (v := .inl _) trivial (a_vtl (a_vtl hv))) (fun _ _ => rfl))
  | isub =>
    obtain ⟨x, y, t, rfl, h⟩ := a_p2_i h
    cases h
    exact lv_isub hexec hb hdg (k H locs ls' hDy hS hl (a_vcons (v := .inl _) trivial (a_vtl (a_vtl hv))) (fun _ _ => rfl))
  | imul =>
    obtain ⟨x, y, t, rfl, h⟩ := a_p2_i h
    cases h
    exact lv_imul hexec hb hdg (k H locs ls' hDy hS hl (a_vcons (v := .inl _) trivial (a_vtl (a_vtl hv))) (fun _ _ => rfl))
  | iand =>
    obtain ⟨x, y, t, rfl, h⟩ := a_p2_i h
    cases h
    exact lv_iand hexec hb hdg (k H locs ls' hDy hS hl (a_vcons (v := .inl _) trivial (a_vtl (a_vtl hv))) (fun _ _ => rfl))
  | ixor =>
    obtain ⟨x, y, t, rfl, h⟩ := a_p2_i h
    cases h
    exact lv_ixor hexec hb hdg (k H locs ls' hDy hS hl (a_vcons (v := .inl _) trivial (a_vtl (a_vtl hv))) (fun _ _ => rfl))
  | ishr =>
    obtain ⟨x, y, t, rfl, h⟩ := a_p2_i h
    cases h
    exact lv_ishr hexec hb hdg (k H locs ls' hDy hS hl (a_vcons (v := .inl _) trivial (a_vtl (a_vtl hv))) (fun _ _ => rfl))
  | ldc idx =>
    cases h
    exact lv_ldc hexec hb hown (hts _ (a_wsp hc2)) hdg (k H locs ls' hDy hS hl (a_vcons (v := .inl _) trivial hv) (fun _ _ => rfl))
  | idiv =>
    obtain ⟨x, y, t, rfl, h⟩ := a_p2_i h
    obtain ⟨hy, h⟩ := a_if_i h
    cases h
    exact lv_idiv hexec hb hdg hy (k H locs ls' hDy hS hl (a_vcons (v := .inl _) trivial (a_vtl (a_vtl hv))) (fun _ _ => rfl))
  | irem =>
    obtain ⟨x, y, t, rfl, h⟩ := a_p2_i h
    obtain ⟨hy, h⟩ := a_if_i h
    cases h
    exact lv_irem hexec hb hdg hy (k H locs ls' hDy hS hl (a_vcons (v := .inl _) trivial (a_vtl (a_vtl hv))) (fun _ _ => rfl))
  | dup =>
    obtain ⟨v, t, rfl, h⟩ := a_p0_i h
    cases h
    exact lv_dup hexec hb hdg (a_cv_cat _ v) (k H locs ls' hDy hS hl (a_vcons (a_vhd hv) hv) (fun _ _ => rfl))
  | dup2 =>
    obtain ⟨v, u, t, rfl, h⟩ := a_pv_i h
    cases h
    exact lv_dup2_11 hexec hb hdg (a_cv_cat _ v) (a_cv_cat _ u) (k H locs ls' hDy hS hl (a_vcons (a_vhd hv) (a_vcons (a_vhd (a_vtl hv)) hv)) (fun _ _ => rfl))
  | pop =>
    obtain ⟨v, t, rfl, h⟩ := a_p0_i h
    cases h
    exact lv_pop hexec hb hdg (a_cv_cat _ v) (k H locs ls' hDy hS hl (a_vtl hv) (fun _ _ => rfl))
  | goto o =>
    cases h
    exact lv_goto hexec hb hdg (of_decide_eq_true hc2) (k H locs ls' hDy hS hl hv (fun _ _ => rfl))
  | ifCond cnd o =>
    obtain ⟨x, t, rfl, h⟩ := a_p1_i h
    cases h
    have ht := of_decide_eq_true hc2
    have kk := k H locs ls' hDy hS hl (a_vtl hv) (fun _ _ => rfl)
    cases cnd with
    | eq => exact lv_if_eq hexec hb hdg ht (fun z => by rwa [if_pos (by exact decide_eq_true z)] at kk) (fun z => by rwa [if_neg (by simpa [a_cc] using z)] at kk)
    | ne => exact lv_if_ne hexec hb hdg ht (fun z => by rwa [if_pos (by exact decide_eq_true z)] at kk) (fun z => by rwa [if_neg (by simpa [a_cc] using z)] at kk)
    | lt => exact lv_if_lt hexec hb hdg ht (fun z => by rwa [if_pos (by exact decide_eq_true z)] at kk) (fun z => by rwa [if_neg (by simpa [a_cc] using z)] at kk)
    | ge => exact lv_if_ge hexec hb hdg ht (fun z => by rwa [if_pos (by exact decide_eq_true z)] at kk) (fun z => by rwa [if_neg (by simpa [a_cc] using z)] at kk)
    | gt => exact lv_if_gt hexec hb hdg ht (fun z => by rwa [if_pos (by exact decide_eq_true z)] at kk) (fun z => by rwa [if_neg (by simpa [a_cc] using z)] at kk)
    | le => exact lv_if_le hexec hb hdg ht (fun z => by rwa [if_pos (by exact decide_eq_true z)] at kk) (fun z => by rwa [if_neg (by simpa [a_cc] using z)] at kk)
  | if_icmp cnd o =>
    obtain ⟨x, y, t, rfl, h⟩ := a_p2_i h
    cases h
    have ht := of_decide_eq_true hc2
    have kk := k H locs ls' hDy hS hl (a_vtl (a_vtl hv)) (fun _ _ => rfl)
    cases cnd with
    | eq => exact lv_icmp_eq hexec hb hdg ht (fun z => by rwa [if_pos (by exact decide_eq_true z)] at kk) (fun z => by rwa [if_neg (by simpa [a_cc] using z)] at kk)
    | ne => exact lv_icmp_ne hexec hb hdg ht (fun z => by rwa [if_pos (by exact decide_eq_true z)] at kk) (fun z => by rwa [if_neg (by simpa [a_cc] using z)] at kk)
    | lt => exact lv_icmp_lt hexec hb hdg ht (fun z => by rwa [if_pos (by exact decide_eq_true z)] at kk) (fun z => by rwa [if_neg (by simpa [a_cc] using z)] at kk)
    | ge => exact lv_icmp_ge hexec hb hdg ht (fun z => by rwa [if_pos (by exact decide_eq_true z)] at kk) (fun z => by rwa [if_neg (by simpa [a_cc] using z)] at kk)
    | gt => exact lv_icmp_gt hexec hb hdg ht (fun z => by rwa [if_pos (by exact decide_eq_true z)] at kk) (fun z => by rwa [if_neg (by simpa [a_cc] using z)] at kk)
    | le => exact lv_icmp_le hexec hb hdg ht (fun z => by rwa [if_pos (by exact decide_eq_true z)] at kk) (fun z => by rwa [if_neg (by simpa [a_cc] using z)] at kk)
  | tableswitch dflt lo hi offs =>
    obtain ⟨x, t, rfl, h⟩ := a_p1_i h
    obtain ⟨⟨⟨z1, z2⟩, z3⟩, h⟩ := a_if_i h
    cases h
    have kk := k H locs ls' hDy hS hl (a_vtl hv) (fun _ _ => rfl)
    by_cases ho : x.toInt < lo ∨ hi < x.toInt
    · rw [a_ts, if_pos ho] at kk
      exact lv_tableOut hexec hb hdg ho (by unfold a_tg; omega) kk
    · rw [a_ts, if_neg ho] at kk
      have hsz : (x.toInt - lo).toNat < offs.size := by
        rcases z3 with q | q | q
        · exact absurd (Or.inl q) ho
        · exact absurd (Or.inr q) ho
        · exact q
      have hget : offs[(x.toInt - lo).toNat]? = some offs[(x.toInt - lo).toNat] := Array.getElem?_eq_getElem hsz
      rw [hget] at kk
      dsimp only at kk
      have hnn := z2 offs[(x.toInt - lo).toNat] (by simp)
      exact lv_tableIn hexec hb hdg (fun q => ho (Or.inl q)) (fun q => ho (Or.inr q)) hget (by unfold a_tg; omega) kk
  | lookupswitch dflt ps =>
    obtain ⟨x, t, rfl, h⟩ := a_p1_i h
    obtain ⟨z1, h⟩ := a_if_i h
    cases h
    exact lv_lookup hexec hb hdg hc2 rfl (by unfold a_lk a_tg; omega) (k H locs ls' hDy hS hl (a_vtl hv) (fun _ _ => rfl))
  | getfield idx =>
    obtain ⟨c1, d1, t, rfl, h⟩ := a_pr_i h
    obtain ⟨hkd, h⟩ := a_if_i h
    have hvr : a_vr c1 d1 := a_vhd hv
    have hc41 : c1 < 40 := a_kd_3 (by rw [hkd]; exact Nat.zero_le _)
    cases hq : vwCl[a]? with
    | none => simp only [hq] at hc2; cases hc2
    | some q =>
      obtain ⟨C, T, N⟩ := q
      simp only [hq, Bool.and_eq_true, decide_eq_true_eq] at hc2
      obtain ⟨hbN, hw⟩ := hc2
      have hws := a_ws_get g m hvr hc41
      have hcell : a_cell g m c1 d1 = .inr (a, (List.range (a_nf c1)).map (a_fv g.2.2.2 m c1 d1)) := by simp only [a_cell, hkd]
      rw [hcell] at hws
      have hfs : ((List.range (a_nf c1)).map (a_fv g.2.2.2 m c1 d1))[b]? = some (a_fv g.2.2.2 m c1 d1 b) := by
        rw [List.getElem?_map, List.getElem?_range (by rw [a_kd_nf hkd hq]; exact hbN)]
        rfl
      refine va_get (D := D) hexec hb hts (a_cls hq).1 hown hSt.1 hDy.1 (a_ri c1 d1) hws hq b hbN (hts _ (a_wsp hw)) (fun _ h9 => h9) hfs hdg ?_
      cases hfr : a_fr c1 d1 b with
      | none =>
        rw [hfr] at h
        cases h
        rw [a_fv, hfr]
        exact k H locs ls' hDy hS hl (a_vcons (v := .inl _) trivial (a_vtl hv)) (fun _ _ => rfl)
      | some r =>
        obtain ⟨r1, r2⟩ := r
        rw [hfr] at h
        cases h
        rw [a_fv, hfr]
        exact k H locs ls' hDy hS hl (a_vcons (v := .inr (r1, r2)) (a_ft_ok hvr hc41 hfr) (a_vtl hv)) (fun _ _ => rfl)
  | putfield idx =>
    obtain ⟨x, c1, d1, t, rfl, h⟩ := a_p1r_i h
    obtain ⟨⟨⟨hkd, hfr⟩, hbool⟩, h⟩ := a_if_i h
    cases h
    have hvr : a_vr c1 d1 := a_vhd (a_vtl hv)
    have hc41 : c1 < 40 := a_kd_3 (by rw [hkd]; exact Nat.zero_le _)
    cases hq : vwCl[a]? with
    | none => simp only [hq] at hc2; cases hc2
    | some q =>
      obtain ⟨C, T, N⟩ := q
      simp only [hq, Bool.and_eq_true, decide_eq_true_eq, Bool.not_eq_true'] at hc2
      obtain ⟨⟨⟨hbN, hw⟩, hfin⟩, hty⟩ := hc2
      have hws := a_ws_get g m hvr hc41
      have hcell : a_cell g m c1 d1 = .inr (a, (List.range (a_nf c1)).map (a_fv g.2.2.2 m c1 d1)) := by simp only [a_cell, hkd]
      have hcell' : a_cell g (a_up m c1 d1 b x) c1 d1 = .inr (a, (List.range (a_nf c1)).map (a_fv g.2.2.2 (a_up m c1 d1 b x) c1 d1)) := by simp only [a_cell, hkd]
      rw [hcell] at hws
      obtain ⟨hin, hnm, ty0, hty0⟩ := a_cls hq
      have hnf := a_kd_nf hkd hq
      have hset : (a_ws g m).set (a_ri c1 d1) (g.2.2.2 c1 d1, .inr (a, ((List.range (a_nf c1)).map (a_fv g.2.2.2 m c1 d1)).set b (.int x))) = a_ws g (a_up m c1 d1 b x) := by
        refine a_ws_set g hvr hc41 (fun c' b' hh => a_up_off m c1 d1 b x c' b' hh) ?_
        rw [hcell', a_fv_up _ _ _ _ _ _ _ hfr]
      have hnar : narrow (if a_bf a b = true then FieldType.boolean else FieldType.int) (.int x) = .int x ∧ fits (if a_bf a b = true then FieldType.boolean else FieldType.int) (.int x) = true := by
        by_cases hbf : a_bf a b = true
        · rw [if_pos hbf]
          rcases hbool hbf with rfl | rfl
          · exact ⟨by decide, by decide⟩
          · exact ⟨by decide, by decide⟩
        · rw [if_neg hbf]
          exact ⟨rfl, rfl⟩
      refine va_put (D := D) (v := .int x) hexec hb hts hin ty0 hty0 hnm hown hSt.1 hDy.1 hDy.2 hS (a_ri c1 d1) hws hq b hbN (hts _ (a_wsp hw)) (fun _ h9 => h9) hfin hty hnar.1 hnar.2 (by rw [List.length_map, List.length_range, hnf]; exact hbN) hdg (fun H1 locs1 hP1 hD1 hS1 => ?_)
      rw [hset] at hP1 hD1
      exact k H1 locs1 ls' ⟨hP1, hD1⟩ hS1 hl (a_vtl (a_vtl hv)) (fun c' hc' => a_up_c _ _ _ _ _ _ (by omega))
  | getstatic idx =>
    cases h
    simp only [Bool.and_eq_true, Bool.or_eq_true, decide_eq_true_eq] at hc2
    obtain ⟨⟨h41, h46⟩, hw⟩ := hc2
    have hkk := k H locs ls' hDy hS hl (a_vcons (v := .inr (a, 0)) (Or.inr ⟨by omega, by omega, rfl⟩) hv) (fun _ _ => rfl)
    rcases hw with hw | hw
    · exact va_gets hexec hb (hSt.2.1 a h41 h46).1 hS hown (hts _ (a_wsp hw)) (fun _ h9 => h9) hdg hkk
    · exact va_getsN hexec hb (hSt.2.1 a h41 h46).1 hS hown (va_Nw.use rfl (hSt.2.2.2 _ (a_nwp hw))) (fun _ h9 => h9) hdg hkk
  | iaload =>
    obtain ⟨i, c1, d1, t, rfl, h⟩ := a_p1r_i h
    obtain ⟨⟨htag, hin⟩, h⟩ := a_if_i h
    cases h
    have hvr : a_vr c1 d1 := a_vhd (a_vtl hv)
    have hkk := k H locs ls' hDy hS hl (a_vcons (v := .inl (m c1 d1 i.toNatClampNeg)) trivial (a_vtl (a_vtl hv))) (fun _ _ => rfl)
    rcases htag with ht | ht | ht
    · have hc41 : c1 < 40 := a_kd_3 (by omega)
      have hws := a_ws_get g m hvr hc41
      have hcell : a_cell g m c1 d1 = .inl (g.1, (a_kd c1).2, .inl (m c1 d1)) := by simp only [a_cell, ht]
      rw [hcell] at hws
      exact va_iald (D := D) hexec hb hSt.1 hDy.1 (a_ri c1 d1) 0 hws rfl (a_in_ln (by omega) hin) hdg hkk
    · obtain ⟨h41, h46⟩ := a_kd_4 ht
      have hd : d1 = 0 := by rcases hvr with ⟨q, -⟩ | ⟨-, -, q⟩ <;> omega
      subst hd
      exact va_ti hexec hb (hSt.2.1 c1 h41 h46).2 hS (a_in_ln (by omega) hin) rfl hdg hkk
    · have hc46 := a_kd_5 ht
      subst hc46
      have hd : d1 = 0 := by rcases hvr with ⟨q, -⟩ | ⟨-, -, q⟩ <;> omega
      subst hd
      obtain ⟨x1, x2, x3⟩ := hSt.2.2.1
      exact va_sld hexec hb x1 (Nat.lt_of_lt_of_le x2 x3) (Nat.not_le.mpr x2) hS (a_in_vp hin) hdg hkk
  | baload =>
    obtain ⟨i, c1, d1, t, rfl, h⟩ := a_p1r_i h
    obtain ⟨⟨ht, hin⟩, h⟩ := a_if_i h
    cases h
    have hvr : a_vr c1 d1 := a_vhd (a_vtl hv)
    have hkk := k H locs ls' hDy hS hl (a_vcons (v := .inl (m c1 d1 i.toNatClampNeg)) trivial (a_vtl (a_vtl hv))) (fun _ _ => rfl)
    have hc41 : c1 < 40 := a_kd_3 (by omega)
    have hws := a_ws_get g m hvr hc41
    have hcell : a_cell g m c1 d1 = .inl (g.2.1, (a_kd c1).2, .inl (m c1 d1)) := by simp only [a_cell, ht]
    rw [hcell] at hws
    exact va_zald (D := D) hexec hb hSt.1 hDy.1 (a_ri c1 d1) 1 hws rfl (a_in_ln (by omega) hin) hdg hkk
  | aaload =>
    obtain ⟨i, c1, d1, t, rfl, h⟩ := a_p1r_i h
    obtain ⟨⟨ht, hin⟩, h⟩ := a_if_i h
    cases h
    have hvr : a_vr c1 d1 := a_vhd (a_vtl hv)
    have hc41 : c1 < 40 := a_kd_3 (by omega)
    have hvp := a_in_ln (by omega) hin
    have hlt : i.toNatClampNeg < (a_kd c1).2 := Nat.not_le.mp fun q => hvp (Or.inr q)
    have hel := (show ∀ c, c < 47 → (a_kd c).1 = 3 → ∀ j, j < 6 → j < (a_kd c).2 → a_el c j < 10 by decide +kernel) c1 (by omega) ht i.toNatClampNeg (by
      have := (show ∀ c, c < 47 → (a_kd c).1 = 3 → (a_kd c).2 ≤ 6 by decide +kernel) c1 (by omega) ht
      omega) hlt
    have hkk := k H locs ls' hDy hS hl (a_vcons (v := .inr (0, a_el c1 i.toNatClampNeg)) (Or.inl ⟨by omega, hel⟩) (a_vtl (a_vtl hv))) (fun _ _ => rfl)
    have hws := a_ws_get g m hvr hc41
    have hcell : a_cell g m c1 d1 = .inl (g.2.2.1, (a_kd c1).2, .inr (.inr (.inr (.inr (fun j => some (g.2.2.2 0 (a_el c1 j))))))) := by simp only [a_cell, ht]
    rw [hcell] at hws
    exact va_aldq (D := D) hexec hb hSt.1 hDy.1 (a_ri c1 d1) 2 hws rfl hvp hdg hkk
  | iastore =>
    obtain ⟨x, i, c1, d1, t, rfl, h⟩ := a_p2r_i h
    obtain ⟨⟨ht, hin⟩, h⟩ := a_if_i h
    cases h
    have hvr : a_vr c1 d1 := a_vhd (a_vtl (a_vtl hv))
    have hc41 : c1 < 40 := a_kd_3 (by omega)
    have hws := a_ws_get g m hvr hc41
    have hcell : a_cell g m c1 d1 = .inl (g.1, (a_kd c1).2, .inl (m c1 d1)) := by simp only [a_cell, ht]
    have hset : (a_ws g m).set (a_ri c1 d1) (g.2.2.2 c1 d1, .inl (g.1, (a_kd c1).2, .inl (upd (m c1 d1) i.toNatClampNeg x))) = a_ws g (a_up m c1 d1 i.toNatClampNeg x) := by
      refine a_ws_set g hvr hc41 (fun c' b' hh => a_up_off m c1 d1 _ x c' b' hh) ?_
      simp only [a_cell, ht, a_up_row]
    rw [hcell] at hws
    refine va_iast (D := D) hexec hb hSt.1 hDy.1 hDy.2 hS (a_ri c1 d1) 0 hws rfl (a_in_ln (by omega) hin) hdg (fun H1 locs1 hP1 hD1 hS1 => ?_)
    rw [hset] at hP1 hD1
    exact k H1 locs1 ls' ⟨hP1, hD1⟩ hS1 hl (a_vtl (a_vtl (a_vtl hv))) (fun c' hc' => a_up_c _ _ _ _ _ _ (by omega))
  | bastore =>
    obtain ⟨x, i, c1, d1, t, rfl, h⟩ := a_p2r_i h
    obtain ⟨⟨⟨ht, hin⟩, hx⟩, h⟩ := a_if_i h
    cases h
    have hvr : a_vr c1 d1 := a_vhd (a_vtl (a_vtl hv))
    have hc41 : c1 < 40 := a_kd_3 (by omega)
    have hws := a_ws_get g m hvr hc41
    have hcell : a_cell g m c1 d1 = .inl (g.2.1, (a_kd c1).2, .inl (m c1 d1)) := by simp only [a_cell, ht]
    have hnx : vp_nar .boolean x = x := by rcases hx with rfl | rfl <;> decide
    have hset : (a_ws g m).set (a_ri c1 d1) (g.2.2.2 c1 d1, .inl (g.2.1, (a_kd c1).2, .inl (upd (m c1 d1) i.toNatClampNeg (vp_nar .boolean x)))) = a_ws g (a_up m c1 d1 i.toNatClampNeg x) := by
      refine a_ws_set g hvr hc41 (fun c' b' hh => a_up_off m c1 d1 _ x c' b' hh) ?_
      simp only [a_cell, ht, a_up_row, hnx]
    rw [hcell] at hws
    refine va_zast (D := D) hexec hb hSt.1 hDy.1 hDy.2 hS (a_ri c1 d1) 1 hws rfl (a_in_ln (by omega) hin) hdg (fun H1 locs1 hP1 hD1 hS1 => ?_)
    rw [hset] at hP1 hD1
    exact k H1 locs1 ls' ⟨hP1, hD1⟩ hS1 hl (a_vtl (a_vtl (a_vtl hv))) (fun c' hc' => a_up_c _ _ _ _ _ _ (by omega))
  | arraylength =>
    obtain ⟨c1, d1, t, rfl, h⟩ := a_pr_i h
    obtain ⟨ht, h⟩ := a_if_i h
    cases h
    have hvr : a_vr c1 d1 := a_vhd hv
    have hkk := k H locs ls' hDy hS hl (a_vcons (v := .inl (nI (a_ln m c1))) trivial (a_vtl hv)) (fun _ _ => rfl)
    rcases ht with ht | ht
    · have hc41 : c1 < 40 := a_kd_3 (by omega)
      have hws := a_ws_get g m hvr hc41
      have hcell : a_cell g m c1 d1 = .inl (g.1, (a_kd c1).2, .inl (m c1 d1)) := by simp only [a_cell, ht]
      rw [hcell] at hws
      rw [a_ln, if_neg (by omega)] at hkk
      exact va_alen (D := D) hexec hb hSt.1 hDy.1 (a_ri c1 d1) 0 hws rfl rfl hdg hkk
    · have hc46 := a_kd_5 ht
      subst hc46
      have hd : d1 = 0 := by rcases hvr with ⟨q, -⟩ | ⟨-, -, q⟩ <;> omega
      subst hd
      obtain ⟨x1, x2, x3⟩ := hSt.2.2.1
      exact va_slen hexec hb x1 (Nat.lt_of_lt_of_le x2 x3) (Nat.not_le.mpr x2) hS hdg hkk
  | invokestatic idx =>
    simp only [Bool.and_eq_true, decide_eq_true_eq] at hc2
    obtain ⟨hdep, hc2⟩ := hc2
    change (if a = 1000 then _ else _) = some _ at h
    by_cases ha : a = 1000
    · rw [if_pos ha] at h hc2
      obtain ⟨x, y, t, rfl, h⟩ := a_p2_i h
      obtain ⟨hlen, h⟩ := a_if_i h
      cases h
      have hcat : ((t.map (a_cv g.2.2.2)).map fun v => v.category).sum ≤ 8 := by
        have : ∀ t : List aV, ((t.map (a_cv g.2.2.2)).map fun v => v.category).sum = t.length := by
          intro t
          induction t with
          | nil => rfl
          | cons v t ih => rw [List.map_cons, List.map_cons, List.sum_cons, ih, a_cv_cat, List.length_cons]; omega
        rw [this]; exact hlen
      refine va_mmin hexec hb (hml.trans hl.1.symm) hown (hts _ (a_wsp hc2)) (hts _ a_wmin1) (hts _ a_wmin2) (hts _ a_wmin3) (by omega) (by omega) hR.2.2.1 hR.2.2.2 hdg ?_
      exact k H locs ls' hDy hS hl (a_vcons (v := .inl _) trivial (a_vtl (a_vtl hv))) (fun _ _ => rfl)
    · rw [if_neg ha] at h hc2
      by_cases ha1 : a = 1001
      · rw [if_pos ha1] at h hc2
        obtain ⟨n, dp, c1, b1, sp, c0, b0, rfl, h⟩ := a_pcp_i h
        obtain ⟨⟨⟨t0, t1⟩, ⟨g1, g2, g3⟩, g4, g5⟩, h⟩ := a_if_i h
        cases h
        have hv1 : a_vr c1 b1 := a_vhd (a_vtl (a_vtl hv))
        have hv0 : a_vr c0 b0 := a_vhd (a_vtl (a_vtl (a_vtl (a_vtl hv))))
        have hc1 : c1 < 40 := a_kd_3 (by omega)
        have hc0 : c0 < 40 := a_kd_3 (by omega)
        have hw1 := a_ws_get g m hv1 hc1
        have hw0 := a_ws_get g m hv0 hc0
        have hcell1 : a_cell g m c1 b1 = .inl (g.1, (a_kd c1).2, .inl (m c1 b1)) := by simp only [a_cell, t1]
        have hcell0 : a_cell g m c0 b0 = .inl (g.1, (a_kd c0).2, .inl (m c0 b0)) := by simp only [a_cell, t0]
        have hset : (a_ws g m).set (a_ri c1 b1) (g.2.2.2 c1 b1, .inl (g.1, (a_kd c1).2, .inl (va_cpy (m c0 b0) (m c1 b1) sp.toNatClampNeg dp.toNatClampNeg n.toNatClampNeg))) = a_ws g (fun c b j => if c = c1 ∧ b = b1 then va_cpy (m c0 b0) (m c1 b1) sp.toNatClampNeg dp.toNatClampNeg n.toNatClampNeg j else m c b j) := by
          refine a_ws_set g hv1 hc1 (fun c' b' hh => ?_) ?_
          · funext j
            show (if c' = c1 ∧ b' = b1 then _ else _) = _
            rw [if_neg (fun q => hh.elim (fun z => z q.1) (fun z => z q.2))]
          · simp only [a_cell, t1, and_self, if_true]
        rw [hcell1] at hw1
        rw [hcell0] at hw0
        refine va_copyi (D := D) (ty := .int) hexec hb (hml.trans hl.1.symm) hown (hts _ (a_wsp hc2)) (hts _ a_wcpy1) (hts _ a_wcpy2) (hts _ a_wcpy3) hSt.1 hDy.1 hDy.2 hS (a_ri c0 b0) (a_ri c1 b1) 0 0 hw0 hw1 rfl rfl rfl g1 g2 g3 g4 g5 (fun _ _ => rfl) (by omega) (by show 0 + (7 + 11) ≤ _; omega) hdg (fun H1 locs1 hP1 hD1 hS1 => ?_)
        rw [hset] at hP1 hD1
        refine k H1 locs1 ls' ⟨hP1, hD1⟩ hS1 hl (fun v h9 => absurd h9 List.not_mem_nil) (fun c' hc' => ?_)
        funext b' j
        show (if c' = c1 ∧ b' = b1 then _ else _) = _
        rw [if_neg (fun q => by omega)]
      · rw [if_neg ha1] at h
        cases h
  | _ => exact absurd h (fun q => by cases (show (none : Option aS) = some _ from q))
end SND
end
section
/-! every row of code is as the checker wants it -/
theorem a_k0 : (a_c0.all fun e => a_chk a_m0 e.1 e.2) = true := by decide +kernel
theorem a_k1 : (a_c1.all fun e => a_chk a_m1 e.1 e.2) = true := by decide +kernel
theorem a_k2 : (a_c2.all fun e => a_chk a_m2 e.1 e.2) = true := by decide +kernel
theorem a_k3 : (a_c3.all fun e => a_chk a_m3 e.1 e.2) = true := by decide +kernel
theorem a_k4 : (a_c4.all fun e => a_chk a_m4 e.1 e.2) = true := by decide +kernel
theorem a_k5 : (a_c5.all fun e => a_chk a_m5 e.1 e.2) = true := by decide +kernel
theorem a_k6 : (a_c6.all fun e => a_chk a_m6 e.1 e.2) = true := by decide +kernel
theorem a_k7 : (a_c7.all fun e => a_chk a_m7 e.1 e.2) = true := by decide +kernel
theorem a_k8 : (a_c8.all fun e => a_chk a_m8 e.1 e.2) = true := by decide +kernel
theorem a_k9 : (a_c9.all fun e => a_chk a_m9 e.1 e.2) = true := by decide +kernel
theorem a_k10 : (a_c10.all fun e => a_chk a_m10 e.1 e.2) = true := by decide +kernel
theorem a_k11 : (a_c11.all fun e => a_chk a_m11 e.1 e.2) = true := by decide +kernel
theorem a_k12 : (a_c12.all fun e => a_chk a_m12 e.1 e.2) = true := by decide +kernel
theorem a_k13 : (a_c13.all fun e => a_chk a_m13 e.1 e.2) = true := by decide +kernel
theorem a_k14_0 : (a_c14_0.all fun e => a_chk a_m14 e.1 e.2) = true := by decide +kernel
theorem a_k14_1 : (a_c14_1.all fun e => a_chk a_m14 e.1 e.2) = true := by decide +kernel
theorem a_k14 : (a_c14.all fun e => a_chk a_m14 e.1 e.2) = true := by
  unfold a_c14
  exact (by
  rw [List.all_append, Bool.and_eq_true]
  exact ⟨a_k14_0, a_k14_1⟩)
theorem a_k15 : (a_c15.all fun e => a_chk a_m15 e.1 e.2) = true := by decide +kernel
theorem a_k16 : (a_c16.all fun e => a_chk a_m16 e.1 e.2) = true := by decide +kernel
theorem a_k17 : (a_c17.all fun e => a_chk a_m17 e.1 e.2) = true := by decide +kernel
theorem a_k18 : (a_c18.all fun e => a_chk a_m18 e.1 e.2) = true := by decide +kernel
theorem a_k19 : (a_c19.all fun e => a_chk a_m19 e.1 e.2) = true := by decide +kernel
theorem a_k20 : (a_c20.all fun e => a_chk a_m20 e.1 e.2) = true := by decide +kernel
theorem a_k21 : (a_c21.all fun e => a_chk a_m21 e.1 e.2) = true := by decide +kernel
theorem a_k22_0 : (a_c22_0.all fun e => a_chk a_m22 e.1 e.2) = true := by decide +kernel
theorem a_k22_1 : (a_c22_1.all fun e => a_chk a_m22 e.1 e.2) = true := by decide +kernel
theorem a_k22 : (a_c22.all fun e => a_chk a_m22 e.1 e.2) = true := by
  unfold a_c22
  exact (by
  rw [List.all_append, Bool.and_eq_true]
  exact ⟨a_k22_0, a_k22_1⟩)
theorem a_k23 : (a_c23.all fun e => a_chk a_m23 e.1 e.2) = true := by decide +kernel
theorem a_k24 : (a_c24.all fun e => a_chk a_m24 e.1 e.2) = true := by decide +kernel
theorem a_k25_0 : (a_c25_0.all fun e => a_chk a_m25 e.1 e.2) = true := by decide +kernel
theorem a_k25_1 : (a_c25_1.all fun e => a_chk a_m25 e.1 e.2) = true := by decide +kernel
theorem a_k25 : (a_c25.all fun e => a_chk a_m25 e.1 e.2) = true := by
  unfold a_c25
  exact (by
  rw [List.all_append, Bool.and_eq_true]
  exact ⟨a_k25_0, a_k25_1⟩)
theorem a_k26 : (a_c26.all fun e => a_chk a_m26 e.1 e.2) = true := by decide +kernel
theorem a_k27 : (a_c27.all fun e => a_chk a_m27 e.1 e.2) = true := by decide +kernel
theorem a_k28 : (a_c28.all fun e => a_chk a_m28 e.1 e.2) = true := by decide +kernel
theorem a_k29 : (a_c29.all fun e => a_chk a_m29 e.1 e.2) = true := by decide +kernel
theorem a_k30 : (a_c30.all fun e => a_chk a_m30 e.1 e.2) = true := by decide +kernel
theorem a_k31_0 : (a_c31_0.all fun e => a_chk a_m31 e.1 e.2) = true := by decide +kernel
theorem a_k31_1 : (a_c31_1.all fun e => a_chk a_m31 e.1 e.2) = true := by decide +kernel
theorem a_k31 : (a_c31.all fun e => a_chk a_m31 e.1 e.2) = true := by
  unfold a_c31
  exact (by
  rw [List.all_append, Bool.and_eq_true]
  exact ⟨a_k31_0, a_k31_1⟩)
theorem a_k32_0 : (a_c32_0.all fun e => a_chk a_m32 e.1 e.2) = true := by decide +kernel
theorem a_k32_1 : (a_c32_1.all fun e => a_chk a_m32 e.1 e.2) = true := by decide +kernel
theorem a_k32_2 : (a_c32_2.all fun e => a_chk a_m32 e.1 e.2) = true := by decide +kernel
theorem a_k32 : (a_c32.all fun e => a_chk a_m32 e.1 e.2) = true := by
  unfold a_c32
  exact (by
  rw [List.all_append, Bool.and_eq_true]
  exact ⟨a_k32_0, (by
  rw [List.all_append, Bool.and_eq_true]
  exact ⟨a_k32_1, a_k32_2⟩)⟩)
theorem a_k33_0 : (a_c33_0.all fun e => a_chk a_m33 e.1 e.2) = true := by decide +kernel
theorem a_k33_1 : (a_c33_1.all fun e => a_chk a_m33 e.1 e.2) = true := by decide +kernel
theorem a_k33 : (a_c33.all fun e => a_chk a_m33 e.1 e.2) = true := by
  unfold a_c33
  exact (by
  rw [List.all_append, Bool.and_eq_true]
  exact ⟨a_k33_0, a_k33_1⟩)
theorem a_k34 : (a_c34.all fun e => a_chk a_m34 e.1 e.2) = true := by decide +kernel
theorem a_k35 : (a_c35.all fun e => a_chk a_m35 e.1 e.2) = true := by decide +kernel
theorem a_k36 : (a_c36.all fun e => a_chk a_m36 e.1 e.2) = true := by decide +kernel
theorem a_k37_0 : (a_c37_0.all fun e => a_chk a_m37 e.1 e.2) = true := by decide +kernel
theorem a_k37_1 : (a_c37_1.all fun e => a_chk a_m37 e.1 e.2) = true := by decide +kernel
theorem a_k37 : (a_c37.all fun e => a_chk a_m37 e.1 e.2) = true := by
  unfold a_c37
  exact (by
  rw [List.all_append, Bool.and_eq_true]
  exact ⟨a_k37_0, a_k37_1⟩)
theorem a_k38_0 : (a_c38_0.all fun e => a_chk a_m38 e.1 e.2) = true := by decide +kernel
theorem a_k38_1 : (a_c38_1.all fun e => a_chk a_m38 e.1 e.2) = true := by decide +kernel
theorem a_k38 : (a_c38.all fun e => a_chk a_m38 e.1 e.2) = true := by
  unfold a_c38
  exact (by
  rw [List.all_append, Bool.and_eq_true]
  exact ⟨a_k38_0, a_k38_1⟩)
theorem a_k39 : (a_c39.all fun e => a_chk a_m39 e.1 e.2) = true := by decide +kernel
theorem a_k40 : (a_c40.all fun e => a_chk a_m40 e.1 e.2) = true := by decide +kernel
theorem a_k41 : (a_c41.all fun e => a_chk a_m41 e.1 e.2) = true := by decide +kernel
theorem a_k42 : (a_c42.all fun e => a_chk a_m42 e.1 e.2) = true := by decide +kernel
theorem a_k43 : (a_c43.all fun e => a_chk a_m43 e.1 e.2) = true := by decide +kernel
theorem a_k44_0 : (a_c44_0.all fun e => a_chk a_m44 e.1 e.2) = true := by decide +kernel
theorem a_k44_1 : (a_c44_1.all fun e => a_chk a_m44 e.1 e.2) = true := by decide +kernel
theorem a_k44 : (a_c44.all fun e => a_chk a_m44 e.1 e.2) = true := by
  unfold a_c44
  exact (by
  rw [List.all_append, Bool.and_eq_true]
  exact ⟨a_k44_0, a_k44_1⟩)
theorem a_k45 : (a_c45.all fun e => a_chk a_m45 e.1 e.2) = true := by decide +kernel
theorem a_k46 : (a_c46.all fun e => a_chk a_m46 e.1 e.2) = true := by decide +kernel
theorem a_k47_0 : (a_c47_0.all fun e => a_chk a_m47 e.1 e.2) = true := by decide +kernel
theorem a_k47_1 : (a_c47_1.all fun e => a_chk a_m47 e.1 e.2) = true := by decide +kernel
theorem a_k47 : (a_c47.all fun e => a_chk a_m47 e.1 e.2) = true := by
  unfold a_c47
  exact (by
  rw [List.all_append, Bool.and_eq_true]
  exact ⟨a_k47_0, a_k47_1⟩)
theorem a_k48 : (a_c48.all fun e => a_chk a_m48 e.1 e.2) = true := by decide +kernel
theorem a_k49 : (a_c49.all fun e => a_chk a_m49 e.1 e.2) = true := by decide +kernel
theorem a_k50_0 : (a_c50_0.all fun e => a_chk a_m50 e.1 e.2) = true := by decide +kernel
theorem a_k50_1 : (a_c50_1.all fun e => a_chk a_m50 e.1 e.2) = true := by decide +kernel
theorem a_k50 : (a_c50.all fun e => a_chk a_m50 e.1 e.2) = true := by
  unfold a_c50
  exact (by
  rw [List.all_append, Bool.and_eq_true]
  exact ⟨a_k50_0, a_k50_1⟩)
theorem a_k51_0 : (a_c51_0.all fun e => a_chk a_m51 e.1 e.2) = true := by decide +kernel
theorem a_k51_1 : (a_c51_1.all fun e => a_chk a_m51 e.1 e.2) = true := by decide +kernel
theorem a_k51 : (a_c51.all fun e => a_chk a_m51 e.1 e.2) = true := by
  unfold a_c51
  exact (by
  rw [List.all_append, Bool.and_eq_true]
  exact ⟨a_k51_0, a_k51_1⟩)
theorem a_k52 : (a_c52.all fun e => a_chk a_m52 e.1 e.2) = true := by decide +kernel
theorem a_k53_0 : (a_c53_0.all fun e => a_chk a_m53 e.1 e.2) = true := by decide +kernel
theorem a_k53_1 : (a_c53_1.all fun e => a_chk a_m53 e.1 e.2) = true := by decide +kernel
theorem a_k53_2 : (a_c53_2.all fun e => a_chk a_m53 e.1 e.2) = true := by decide +kernel
theorem a_k53 : (a_c53.all fun e => a_chk a_m53 e.1 e.2) = true := by
  unfold a_c53
  exact (by
  rw [List.all_append, Bool.and_eq_true]
  exact ⟨a_k53_0, (by
  rw [List.all_append, Bool.and_eq_true]
  exact ⟨a_k53_1, a_k53_2⟩)⟩)
theorem a_k54_0 : (a_c54_0.all fun e => a_chk a_m54 e.1 e.2) = true := by decide +kernel
theorem a_k54_1 : (a_c54_1.all fun e => a_chk a_m54 e.1 e.2) = true := by decide +kernel
theorem a_k54 : (a_c54.all fun e => a_chk a_m54 e.1 e.2) = true := by
  unfold a_c54
  exact (by
  rw [List.all_append, Bool.and_eq_true]
  exact ⟨a_k54_0, a_k54_1⟩)
theorem a_k55_0 : (a_c55_0.all fun e => a_chk a_m55 e.1 e.2) = true := by decide +kernel
theorem a_k55_1 : (a_c55_1.all fun e => a_chk a_m55 e.1 e.2) = true := by decide +kernel
theorem a_k55 : (a_c55.all fun e => a_chk a_m55 e.1 e.2) = true := by
  unfold a_c55
  exact (by
  rw [List.all_append, Bool.and_eq_true]
  exact ⟨a_k55_0, a_k55_1⟩)
theorem a_k56 : (a_c56.all fun e => a_chk a_m56 e.1 e.2) = true := by decide +kernel
theorem a_k57 : (a_c57.all fun e => a_chk a_m57 e.1 e.2) = true := by decide +kernel
theorem a_k58 : (a_c58.all fun e => a_chk a_m58 e.1 e.2) = true := by decide +kernel
theorem a_k59 : (a_c59.all fun e => a_chk a_m59 e.1 e.2) = true := by decide +kernel
theorem a_k60 : (a_c60.all fun e => a_chk a_m60 e.1 e.2) = true := by decide +kernel
theorem a_k61 : (a_c61.all fun e => a_chk a_m61 e.1 e.2) = true := by decide +kernel
theorem a_k62 : (a_c62.all fun e => a_chk a_m62 e.1 e.2) = true := by decide +kernel
theorem a_k63 : (a_c63.all fun e => a_chk a_m63 e.1 e.2) = true := by decide +kernel
theorem a_k64 : (a_c64.all fun e => a_chk a_m64 e.1 e.2) = true := by decide +kernel
theorem a_k65 : (a_c65.all fun e => a_chk a_m65 e.1 e.2) = true := by decide +kernel
theorem a_k66 : (a_c66.all fun e => a_chk a_m66 e.1 e.2) = true := by decide +kernel
theorem a_k67 : (a_c67.all fun e => a_chk a_m67 e.1 e.2) = true := by decide +kernel
theorem a_k68 : (a_c68.all fun e => a_chk a_m68 e.1 e.2) = true := by decide +kernel
theorem a_k69 : (a_c69.all fun e => a_chk a_m69 e.1 e.2) = true := by decide +kernel
theorem a_k70 : (a_c70.all fun e => a_chk a_m70 e.1 e.2) = true := by decide +kernel
theorem a_k71 : (a_c71.all fun e => a_chk a_m71 e.1 e.2) = true := by decide +kernel
theorem a_k72 : (a_c72.all fun e => a_chk a_m72 e.1 e.2) = true := by decide +kernel
theorem a_k73 : (a_c73.all fun e => a_chk a_m73 e.1 e.2) = true := by decide +kernel
theorem a_k74 : (a_c74.all fun e => a_chk a_m74 e.1 e.2) = true := by decide +kernel
theorem a_k75 : (a_c75.all fun e => a_chk a_m75 e.1 e.2) = true := by decide +kernel
theorem a_k76 : (a_c76.all fun e => a_chk a_m76 e.1 e.2) = true := by decide +kernel
theorem a_k77 : (a_c77.all fun e => a_chk a_m77 e.1 e.2) = true := by decide +kernel
theorem a_k78 : (a_c78.all fun e => a_chk a_m78 e.1 e.2) = true := by decide +kernel
theorem a_k79 : (a_c79.all fun e => a_chk a_m79 e.1 e.2) = true := by decide +kernel
theorem a_k80 : (a_c80.all fun e => a_chk a_m80 e.1 e.2) = true := by decide +kernel
theorem a_k81 : (a_c81.all fun e => a_chk a_m81 e.1 e.2) = true := by decide +kernel
theorem a_k82 : (a_c82.all fun e => a_chk a_m82 e.1 e.2) = true := by decide +kernel
theorem a_k83 : (a_c83.all fun e => a_chk a_m83 e.1 e.2) = true := by decide +kernel
theorem a_k84 : (a_c84.all fun e => a_chk a_m84 e.1 e.2) = true := by decide +kernel
theorem a_k85 : (a_c85.all fun e => a_chk a_m85 e.1 e.2) = true := by decide +kernel
theorem a_k86 : (a_c86.all fun e => a_chk a_m86 e.1 e.2) = true := by decide +kernel
theorem a_k87 : (a_c87.all fun e => a_chk a_m87 e.1 e.2) = true := by decide +kernel
theorem a_k88 : (a_c88.all fun e => a_chk a_m88 e.1 e.2) = true := by decide +kernel
theorem a_k89 : (a_c89.all fun e => a_chk a_m89 e.1 e.2) = true := by decide +kernel
theorem a_k90 : (a_c90.all fun e => a_chk a_m90 e.1 e.2) = true := by decide +kernel
theorem a_k91 : (a_c91.all fun e => a_chk a_m91 e.1 e.2) = true := by decide +kernel
theorem a_k92_0 : (a_c92_0.all fun e => a_chk a_m92 e.1 e.2) = true := by decide +kernel
theorem a_k92_1 : (a_c92_1.all fun e => a_chk a_m92 e.1 e.2) = true := by decide +kernel
theorem a_k92 : (a_c92.all fun e => a_chk a_m92 e.1 e.2) = true := by
  unfold a_c92
  exact (by
  rw [List.all_append, Bool.and_eq_true]
  exact ⟨a_k92_0, a_k92_1⟩)
theorem a_k93 : (a_c93.all fun e => a_chk a_m93 e.1 e.2) = true := by decide +kernel
theorem a_k94 : (a_c94.all fun e => a_chk a_m94 e.1 e.2) = true := by decide +kernel
theorem a_k95 : (a_c95.all fun e => a_chk a_m95 e.1 e.2) = true := by decide +kernel
theorem a_k96 : (a_c96.all fun e => a_chk a_m96 e.1 e.2) = true := by decide +kernel
theorem a_k97 : (a_c97.all fun e => a_chk a_m97 e.1 e.2) = true := by decide +kernel
theorem a_k98 : (a_c98.all fun e => a_chk a_m98 e.1 e.2) = true := by decide +kernel
theorem a_k99 : (a_c99.all fun e => a_chk a_m99 e.1 e.2) = true := by decide +kernel
theorem a_k100 : (a_c100.all fun e => a_chk a_m100 e.1 e.2) = true := by decide +kernel
theorem a_k101 : (a_c101.all fun e => a_chk a_m101 e.1 e.2) = true := by decide +kernel
theorem a_k102_0 : (a_c102_0.all fun e => a_chk a_m102 e.1 e.2) = true := by decide +kernel
theorem a_k102_1 : (a_c102_1.all fun e => a_chk a_m102 e.1 e.2) = true := by decide +kernel
theorem a_k102_2 : (a_c102_2.all fun e => a_chk a_m102 e.1 e.2) = true := by decide +kernel
theorem a_k102_3 : (a_c102_3.all fun e => a_chk a_m102 e.1 e.2) = true := by decide +kernel
theorem a_k102 : (a_c102.all fun e => a_chk a_m102 e.1 e.2) = true := by
  unfold a_c102
  exact (by
  rw [List.all_append, Bool.and_eq_true]
  exact ⟨a_k102_0, (by
  rw [List.all_append, Bool.and_eq_true]
  exact ⟨a_k102_1, (by
  rw [List.all_append, Bool.and_eq_true]
  exact ⟨a_k102_2, a_k102_3⟩)⟩)⟩)
theorem a_k103 : (a_c103.all fun e => a_chk a_m103 e.1 e.2) = true := by decide +kernel
theorem a_k104_0 : (a_c104_0.all fun e => a_chk a_m104 e.1 e.2) = true := by decide +kernel
theorem a_k104_1 : (a_c104_1.all fun e => a_chk a_m104 e.1 e.2) = true := by decide +kernel
theorem a_k104_2 : (a_c104_2.all fun e => a_chk a_m104 e.1 e.2) = true := by decide +kernel
theorem a_k104 : (a_c104.all fun e => a_chk a_m104 e.1 e.2) = true := by
  unfold a_c104
  exact (by
  rw [List.all_append, Bool.and_eq_true]
  exact ⟨a_k104_0, (by
  rw [List.all_append, Bool.and_eq_true]
  exact ⟨a_k104_1, a_k104_2⟩)⟩)
theorem a_k105_0 : (a_c105_0.all fun e => a_chk a_m105 e.1 e.2) = true := by decide +kernel
theorem a_k105_1 : (a_c105_1.all fun e => a_chk a_m105 e.1 e.2) = true := by decide +kernel
theorem a_k105 : (a_c105.all fun e => a_chk a_m105 e.1 e.2) = true := by
  unfold a_c105
  exact (by
  rw [List.all_append, Bool.and_eq_true]
  exact ⟨a_k105_0, a_k105_1⟩)
theorem a_k106 : (a_c106.all fun e => a_chk a_m106 e.1 e.2) = true := by decide +kernel
theorem a_k107 : (a_c107.all fun e => a_chk a_m107 e.1 e.2) = true := by decide +kernel
theorem a_k108 : (a_c108.all fun e => a_chk a_m108 e.1 e.2) = true := by decide +kernel
theorem a_k109_0 : (a_c109_0.all fun e => a_chk a_m109 e.1 e.2) = true := by decide +kernel
theorem a_k109_1 : (a_c109_1.all fun e => a_chk a_m109 e.1 e.2) = true := by decide +kernel
theorem a_k109_2 : (a_c109_2.all fun e => a_chk a_m109 e.1 e.2) = true := by decide +kernel
theorem a_k109_3 : (a_c109_3.all fun e => a_chk a_m109 e.1 e.2) = true := by decide +kernel
theorem a_k109_4 : (a_c109_4.all fun e => a_chk a_m109 e.1 e.2) = true := by decide +kernel
theorem a_k109_5 : (a_c109_5.all fun e => a_chk a_m109 e.1 e.2) = true := by decide +kernel
theorem a_k109 : (a_c109.all fun e => a_chk a_m109 e.1 e.2) = true := by
  unfold a_c109
  exact (by
  rw [List.all_append, Bool.and_eq_true]
  exact ⟨a_k109_0, (by
  rw [List.all_append, Bool.and_eq_true]
  exact ⟨a_k109_1, (by
  rw [List.all_append, Bool.and_eq_true]
  exact ⟨a_k109_2, (by
  rw [List.all_append, Bool.and_eq_true]
  exact ⟨a_k109_3, (by
  rw [List.all_append, Bool.and_eq_true]
  exact ⟨a_k109_4, a_k109_5⟩)⟩)⟩)⟩)⟩)
theorem a_k110_0 : (a_c110_0.all fun e => a_chk a_m110 e.1 e.2) = true := by decide +kernel
theorem a_k110_1 : (a_c110_1.all fun e => a_chk a_m110 e.1 e.2) = true := by decide +kernel
theorem a_k110_2 : (a_c110_2.all fun e => a_chk a_m110 e.1 e.2) = true := by decide +kernel
theorem a_k110_3 : (a_c110_3.all fun e => a_chk a_m110 e.1 e.2) = true := by decide +kernel
theorem a_k110_4 : (a_c110_4.all fun e => a_chk a_m110 e.1 e.2) = true := by decide +kernel
theorem a_k110_5 : (a_c110_5.all fun e => a_chk a_m110 e.1 e.2) = true := by decide +kernel
theorem a_k110_6 : (a_c110_6.all fun e => a_chk a_m110 e.1 e.2) = true := by decide +kernel
theorem a_k110_7 : (a_c110_7.all fun e => a_chk a_m110 e.1 e.2) = true := by decide +kernel
theorem a_k110 : (a_c110.all fun e => a_chk a_m110 e.1 e.2) = true := by
  unfold a_c110
  exact (by
  rw [List.all_append, Bool.and_eq_true]
  exact ⟨a_k110_0, (by
  rw [List.all_append, Bool.and_eq_true]
  exact ⟨a_k110_1, (by
  rw [List.all_append, Bool.and_eq_true]
  exact ⟨a_k110_2, (by
  rw [List.all_append, Bool.and_eq_true]
  exact ⟨a_k110_3, (by
  rw [List.all_append, Bool.and_eq_true]
  exact ⟨a_k110_4, (by
  rw [List.all_append, Bool.and_eq_true]
  exact ⟨a_k110_5, (by
  rw [List.all_append, Bool.and_eq_true]
  exact ⟨a_k110_6, a_k110_7⟩)⟩)⟩)⟩)⟩)⟩)⟩)
theorem a_k111_0 : (a_c111_0.all fun e => a_chk a_m111 e.1 e.2) = true := by decide +kernel
theorem a_k111_1 : (a_c111_1.all fun e => a_chk a_m111 e.1 e.2) = true := by decide +kernel
theorem a_k111_2 : (a_c111_2.all fun e => a_chk a_m111 e.1 e.2) = true := by decide +kernel
theorem a_k111_3 : (a_c111_3.all fun e => a_chk a_m111 e.1 e.2) = true := by decide +kernel
theorem a_k111_4 : (a_c111_4.all fun e => a_chk a_m111 e.1 e.2) = true := by decide +kernel
theorem a_k111_5 : (a_c111_5.all fun e => a_chk a_m111 e.1 e.2) = true := by decide +kernel
theorem a_k111 : (a_c111.all fun e => a_chk a_m111 e.1 e.2) = true := by
  unfold a_c111
  exact (by
  rw [List.all_append, Bool.and_eq_true]
  exact ⟨a_k111_0, (by
  rw [List.all_append, Bool.and_eq_true]
  exact ⟨a_k111_1, (by
  rw [List.all_append, Bool.and_eq_true]
  exact ⟨a_k111_2, (by
  rw [List.all_append, Bool.and_eq_true]
  exact ⟨a_k111_3, (by
  rw [List.all_append, Bool.and_eq_true]
  exact ⟨a_k111_4, a_k111_5⟩)⟩)⟩)⟩)⟩)
theorem a_k112_0 : (a_c112_0.all fun e => a_chk a_m112 e.1 e.2) = true := by decide +kernel
theorem a_k112_1 : (a_c112_1.all fun e => a_chk a_m112 e.1 e.2) = true := by decide +kernel
theorem a_k112_2 : (a_c112_2.all fun e => a_chk a_m112 e.1 e.2) = true := by decide +kernel
theorem a_k112_3 : (a_c112_3.all fun e => a_chk a_m112 e.1 e.2) = true := by decide +kernel
theorem a_k112_4 : (a_c112_4.all fun e => a_chk a_m112 e.1 e.2) = true := by decide +kernel
theorem a_k112_5 : (a_c112_5.all fun e => a_chk a_m112 e.1 e.2) = true := by decide +kernel
theorem a_k112_6 : (a_c112_6.all fun e => a_chk a_m112 e.1 e.2) = true := by decide +kernel
theorem a_k112 : (a_c112.all fun e => a_chk a_m112 e.1 e.2) = true := by
  unfold a_c112
  exact (by
  rw [List.all_append, Bool.and_eq_true]
  exact ⟨a_k112_0, (by
  rw [List.all_append, Bool.and_eq_true]
  exact ⟨a_k112_1, (by
  rw [List.all_append, Bool.and_eq_true]
  exact ⟨a_k112_2, (by
  rw [List.all_append, Bool.and_eq_true]
  exact ⟨a_k112_3, (by
  rw [List.all_append, Bool.and_eq_true]
  exact ⟨a_k112_4, (by
  rw [List.all_append, Bool.and_eq_true]
  exact ⟨a_k112_5, a_k112_6⟩)⟩)⟩)⟩)⟩)⟩)
theorem a_k113_0 : (a_c113_0.all fun e => a_chk a_m113 e.1 e.2) = true := by decide +kernel
theorem a_k113_1 : (a_c113_1.all fun e => a_chk a_m113 e.1 e.2) = true := by decide +kernel
theorem a_k113_2 : (a_c113_2.all fun e => a_chk a_m113 e.1 e.2) = true := by decide +kernel
theorem a_k113_3 : (a_c113_3.all fun e => a_chk a_m113 e.1 e.2) = true := by decide +kernel
theorem a_k113 : (a_c113.all fun e => a_chk a_m113 e.1 e.2) = true := by
  unfold a_c113
  exact (by
  rw [List.all_append, Bool.and_eq_true]
  exact ⟨a_k113_0, (by
  rw [List.all_append, Bool.and_eq_true]
  exact ⟨a_k113_1, (by
  rw [List.all_append, Bool.and_eq_true]
  exact ⟨a_k113_2, a_k113_3⟩)⟩)⟩)
theorem a_k114_0 : (a_c114_0.all fun e => a_chk a_m114 e.1 e.2) = true := by decide +kernel
theorem a_k114_1 : (a_c114_1.all fun e => a_chk a_m114 e.1 e.2) = true := by decide +kernel
theorem a_k114_2 : (a_c114_2.all fun e => a_chk a_m114 e.1 e.2) = true := by decide +kernel
theorem a_k114_3 : (a_c114_3.all fun e => a_chk a_m114 e.1 e.2) = true := by decide +kernel
theorem a_k114_4 : (a_c114_4.all fun e => a_chk a_m114 e.1 e.2) = true := by decide +kernel
theorem a_k114_5 : (a_c114_5.all fun e => a_chk a_m114 e.1 e.2) = true := by decide +kernel
theorem a_k114_6 : (a_c114_6.all fun e => a_chk a_m114 e.1 e.2) = true := by decide +kernel
theorem a_k114_7 : (a_c114_7.all fun e => a_chk a_m114 e.1 e.2) = true := by decide +kernel
theorem a_k114_8 : (a_c114_8.all fun e => a_chk a_m114 e.1 e.2) = true := by decide +kernel
theorem a_k114_9 : (a_c114_9.all fun e => a_chk a_m114 e.1 e.2) = true := by decide +kernel
theorem a_k114_10 : (a_c114_10.all fun e => a_chk a_m114 e.1 e.2) = true := by decide +kernel
theorem a_k114_11 : (a_c114_11.all fun e => a_chk a_m114 e.1 e.2) = true := by decide +kernel
theorem a_k114_12 : (a_c114_12.all fun e => a_chk a_m114 e.1 e.2) = true := by decide +kernel
theorem a_k114_13 : (a_c114_13.all fun e => a_chk a_m114 e.1 e.2) = true := by decide +kernel
theorem a_k114_14 : (a_c114_14.all fun e => a_chk a_m114 e.1 e.2) = true := by decide +kernel
theorem a_k114_15 : (a_c114_15.all fun e => a_chk a_m114 e.1 e.2) = true := by decide +kernel
theorem a_k114_16 : (a_c114_16.all fun e => a_chk a_m114 e.1 e.2) = true := by decide +kernel
theorem a_k114 : (a_c114.all fun e => a_chk a_m114 e.1 e.2) = true := by
  unfold a_c114
  exact (by
  rw [List.all_append, Bool.and_eq_true]
  exact ⟨a_k114_0, (by
  rw [List.all_append, Bool.and_eq_true]
  exact ⟨a_k114_1, (by
  rw [List.all_append, Bool.and_eq_true]
  exact ⟨a_k114_2, (by
  rw [List.all_append, Bool.and_eq_true]
  exact ⟨a_k114_3, (by
  rw [List.all_append, Bool.and_eq_true]
  exact ⟨a_k114_4, (by
  rw [List.all_append, Bool.and_eq_true]
  exact ⟨a_k114_5, (by
  rw [List.all_append, Bool.and_eq_true]
  exact ⟨a_k114_6, (by
  rw [List.all_append, Bool.and_eq_true]
  exact ⟨a_k114_7, (by
  rw [List.all_append, Bool.and_eq_true]
  exact ⟨a_k114_8, (by
  rw [List.all_append, Bool.and_eq_true]
  exact ⟨a_k114_9, (by
  rw [List.all_append, Bool.and_eq_true]
  exact ⟨a_k114_10, (by
  rw [List.all_append, Bool.and_eq_true]
  exact ⟨a_k114_11, (by
  rw [List.all_append, Bool.and_eq_true]
  exact ⟨a_k114_12, (by
  rw [List.all_append, Bool.and_eq_true]
  exact ⟨a_k114_13, (by
  rw [List.all_append, Bool.and_eq_true]
  exact ⟨a_k114_14, (by
  rw [List.all_append, Bool.and_eq_true]
  exact ⟨a_k114_15, a_k114_16⟩)⟩)⟩)⟩)⟩)⟩)⟩)⟩)⟩)⟩)⟩)⟩)⟩)⟩)⟩)⟩)
theorem a_k115_0 : (a_c115_0.all fun e => a_chk a_m115 e.1 e.2) = true := by decide +kernel
theorem a_k115_1 : (a_c115_1.all fun e => a_chk a_m115 e.1 e.2) = true := by decide +kernel
theorem a_k115_2 : (a_c115_2.all fun e => a_chk a_m115 e.1 e.2) = true := by decide +kernel
theorem a_k115_3 : (a_c115_3.all fun e => a_chk a_m115 e.1 e.2) = true := by decide +kernel
theorem a_k115_4 : (a_c115_4.all fun e => a_chk a_m115 e.1 e.2) = true := by decide +kernel
theorem a_k115 : (a_c115.all fun e => a_chk a_m115 e.1 e.2) = true := by
  unfold a_c115
  exact (by
  rw [List.all_append, Bool.and_eq_true]
  exact ⟨a_k115_0, (by
  rw [List.all_append, Bool.and_eq_true]
  exact ⟨a_k115_1, (by
  rw [List.all_append, Bool.and_eq_true]
  exact ⟨a_k115_2, (by
  rw [List.all_append, Bool.and_eq_true]
  exact ⟨a_k115_3, a_k115_4⟩)⟩)⟩)⟩)
theorem a_mok_0 : (a_mt_0.all a_mok) = true := by decide +kernel
theorem a_mok_1 : (a_mt_1.all a_mok) = true := by decide +kernel
theorem a_mok_2 : (a_mt_2.all a_mok) = true := by decide +kernel
theorem a_mok_3 : (a_mt_3.all a_mok) = true := by decide +kernel
theorem a_mok_4 : (a_mt_4.all a_mok) = true := by decide +kernel
theorem a_mok_5 : (a_mt_5.all a_mok) = true := by decide +kernel
theorem a_mok_6 : (a_mt_6.all a_mok) = true := by decide +kernel
theorem a_mok_7 : (a_mt_7.all a_mok) = true := by decide +kernel
theorem a_moks : ∀ M ∈ a_mtl, a_mok M = true := by
  unfold a_mtl
  exact (by
  rw [List.forall_mem_append]
  exact ⟨List.all_eq_true.mp a_mok_0, (by
  rw [List.forall_mem_append]
  exact ⟨List.all_eq_true.mp a_mok_1, (by
  rw [List.forall_mem_append]
  exact ⟨List.all_eq_true.mp a_mok_2, (by
  rw [List.forall_mem_append]
  exact ⟨List.all_eq_true.mp a_mok_3, (by
  rw [List.forall_mem_append]
  exact ⟨List.all_eq_true.mp a_mok_4, (by
  rw [List.forall_mem_append]
  exact ⟨List.all_eq_true.mp a_mok_5, (by
  rw [List.forall_mem_append]
  exact ⟨List.all_eq_true.mp a_mok_6, List.all_eq_true.mp a_mok_7⟩)⟩)⟩)⟩)⟩)⟩)⟩)
theorem a_cw0 : Cond.code a_m0.1 a_m0.2.1 a_m0.2.2.1 a_m0.2.2.2.1 ∈ wsL_law := a_wchs_in _ (List.mem_of_getElem? (i := 9) rfl) _ (List.mem_of_getElem? (l := wsL_law_r10) (i := 3) rfl)
theorem a_cw1 : Cond.code a_m1.1 a_m1.2.1 a_m1.2.2.1 a_m1.2.2.2.1 ∈ wsL_law := a_wchs_in _ (List.mem_of_getElem? (i := 9) rfl) _ (List.mem_of_getElem? (l := wsL_law_r10) (i := 3) rfl)
theorem a_cw2 : Cond.code a_m2.1 a_m2.2.1 a_m2.2.2.1 a_m2.2.2.2.1 ∈ wsL_law := a_wchs_in _ (List.mem_of_getElem? (i := 9) rfl) _ (List.mem_of_getElem? (l := wsL_law_r10) (i := 3) rfl)
theorem a_cw3 : Cond.code a_m3.1 a_m3.2.1 a_m3.2.2.1 a_m3.2.2.2.1 ∈ wsL_law := a_wchs_in _ (List.mem_of_getElem? (i := 9) rfl) _ (List.mem_of_getElem? (l := wsL_law_r10) (i := 3) rfl)
theorem a_cw4 : Cond.code a_m4.1 a_m4.2.1 a_m4.2.2.1 a_m4.2.2.2.1 ∈ wsL_law := a_wchs_in _ (List.mem_of_getElem? (i := 9) rfl) _ (List.mem_of_getElem? (l := wsL_law_r10) (i := 3) rfl)
theorem a_cw5 : Cond.code a_m5.1 a_m5.2.1 a_m5.2.2.1 a_m5.2.2.2.1 ∈ wsL_law := a_wchs_in _ (List.mem_of_getElem? (i := 9) rfl) _ (List.mem_of_getElem? (l := wsL_law_r10) (i := 3) rfl)
theorem a_cw6 : Cond.code a_m6.1 a_m6.2.1 a_m6.2.2.1 a_m6.2.2.2.1 ∈ wsL_law := a_wchs_in _ (List.mem_of_getElem? (i := 9) rfl) _ (List.mem_of_getElem? (l := wsL_law_r10) (i := 3) rfl)
theorem a_cw7 : Cond.code a_m7.1 a_m7.2.1 a_m7.2.2.1 a_m7.2.2.2.1 ∈ wsL_law := a_wchs_in _ (List.mem_of_getElem? (i := 9) rfl) _ (List.mem_of_getElem? (l := wsL_law_r10) (i := 3) rfl)
theorem a_cw8 : Cond.code a_m8.1 a_m8.2.1 a_m8.2.2.1 a_m8.2.2.2.1 ∈ wsL_law := a_wchs_in _ (List.mem_of_getElem? (i := 9) rfl) _ (List.mem_of_getElem? (l := wsL_law_r10) (i := 3) rfl)
theorem a_cw9 : Cond.code a_m9.1 a_m9.2.1 a_m9.2.2.1 a_m9.2.2.2.1 ∈ wsL_law := a_wchs_in _ (List.mem_of_getElem? (i := 9) rfl) _ (List.mem_of_getElem? (l := wsL_law_r10) (i := 3) rfl)
theorem a_cw10 : Cond.code a_m10.1 a_m10.2.1 a_m10.2.2.1 a_m10.2.2.2.1 ∈ wsL_law := a_wchs_in _ (List.mem_of_getElem? (i := 6) rfl) _ (List.mem_of_getElem? (l := wsL_law_r7) (i := 15) rfl)
theorem a_cw11 : Cond.code a_m11.1 a_m11.2.1 a_m11.2.2.1 a_m11.2.2.2.1 ∈ wsL_law := a_wchs_in _ (List.mem_of_getElem? (i := 9) rfl) _ (List.mem_of_getElem? (l := wsL_law_r10) (i := 16) rfl)
theorem a_cw12 : Cond.code a_m12.1 a_m12.2.1 a_m12.2.2.1 a_m12.2.2.2.1 ∈ wsL_law := a_wchs_in _ (List.mem_of_getElem? (i := 17) rfl) _ (List.mem_of_getElem? (l := wsL_law_r18) (i := 9) rfl)
theorem a_cw13 : Cond.code a_m13.1 a_m13.2.1 a_m13.2.2.1 a_m13.2.2.2.1 ∈ wsL_law := a_wchs_in _ (List.mem_of_getElem? (i := 14) rfl) _ (List.mem_of_getElem? (l := wsL_law_r15) (i := 14) rfl)
theorem a_cw14 : Cond.code a_m14.1 a_m14.2.1 a_m14.2.2.1 a_m14.2.2.2.1 ∈ wsL_law := a_wchs_in _ (List.mem_of_getElem? (i := 9) rfl) _ (List.mem_of_getElem? (l := wsL_law_r10) (i := 11) rfl)
theorem a_cw15 : Cond.code a_m15.1 a_m15.2.1 a_m15.2.2.1 a_m15.2.2.2.1 ∈ wsL_law := a_wchs_in _ (List.mem_of_getElem? (i := 11) rfl) _ (List.mem_of_getElem? (l := wsL_law_r12) (i := 1) rfl)
theorem a_cw16 : Cond.code a_m16.1 a_m16.2.1 a_m16.2.2.1 a_m16.2.2.2.1 ∈ wsL_law := a_wchs_in _ (List.mem_of_getElem? (i := 10) rfl) _ (List.mem_of_getElem? (l := wsL_law_r11) (i := 0) rfl)
theorem a_cw17 : Cond.code a_m17.1 a_m17.2.1 a_m17.2.2.1 a_m17.2.2.2.1 ∈ wsL_law := a_wchs_in _ (List.mem_of_getElem? (i := 11) rfl) _ (List.mem_of_getElem? (l := wsL_law_r12) (i := 5) rfl)
theorem a_cw18 : Cond.code a_m18.1 a_m18.2.1 a_m18.2.2.1 a_m18.2.2.2.1 ∈ wsL_law := a_wchs_in _ (List.mem_of_getElem? (i := 11) rfl) _ (List.mem_of_getElem? (l := wsL_law_r12) (i := 9) rfl)
theorem a_cw19 : Cond.code a_m19.1 a_m19.2.1 a_m19.2.2.1 a_m19.2.2.2.1 ∈ wsL_law := a_wchs_in _ (List.mem_of_getElem? (i := 9) rfl) _ (List.mem_of_getElem? (l := wsL_law_r10) (i := 3) rfl)
theorem a_cw20 : Cond.code a_m20.1 a_m20.2.1 a_m20.2.2.1 a_m20.2.2.2.1 ∈ wsL_law := a_wchs_in _ (List.mem_of_getElem? (i := 9) rfl) _ (List.mem_of_getElem? (l := wsL_law_r10) (i := 3) rfl)
theorem a_cw21 : Cond.code a_m21.1 a_m21.2.1 a_m21.2.2.1 a_m21.2.2.2.1 ∈ wsL_law := a_wchs_in _ (List.mem_of_getElem? (i := 9) rfl) _ (List.mem_of_getElem? (l := wsL_law_r10) (i := 3) rfl)
theorem a_cw22 : Cond.code a_m22.1 a_m22.2.1 a_m22.2.2.1 a_m22.2.2.2.1 ∈ wsL_law := a_wchs_in _ (List.mem_of_getElem? (i := 6) rfl) _ (List.mem_of_getElem? (l := wsL_law_r7) (i := 10) rfl)
theorem a_cw23 : Cond.code a_m23.1 a_m23.2.1 a_m23.2.2.1 a_m23.2.2.2.1 ∈ wsL_law := a_wchs_in _ (List.mem_of_getElem? (i := 8) rfl) _ (List.mem_of_getElem? (l := wsL_law_r9) (i := 14) rfl)
theorem a_cw24 : Cond.code a_m24.1 a_m24.2.1 a_m24.2.2.1 a_m24.2.2.2.1 ∈ wsL_law := a_wchs_in _ (List.mem_of_getElem? (i := 8) rfl) _ (List.mem_of_getElem? (l := wsL_law_r9) (i := 0) rfl)
theorem a_cw25 : Cond.code a_m25.1 a_m25.2.1 a_m25.2.2.1 a_m25.2.2.2.1 ∈ wsL_law := a_wchs_in _ (List.mem_of_getElem? (i := 8) rfl) _ (List.mem_of_getElem? (l := wsL_law_r9) (i := 18) rfl)
theorem a_cw26 : Cond.code a_m26.1 a_m26.2.1 a_m26.2.2.1 a_m26.2.2.2.1 ∈ wsL_law := a_wchs_in _ (List.mem_of_getElem? (i := 6) rfl) _ (List.mem_of_getElem? (l := wsL_law_r7) (i := 5) rfl)
theorem a_cw27 : Cond.code a_m27.1 a_m27.2.1 a_m27.2.2.1 a_m27.2.2.2.1 ∈ wsL_law := a_wchs_in _ (List.mem_of_getElem? (i := 12) rfl) _ (List.mem_of_getElem? (l := wsL_law_r13) (i := 10) rfl)
theorem a_cw28 : Cond.code a_m28.1 a_m28.2.1 a_m28.2.2.1 a_m28.2.2.2.1 ∈ wsL_law := a_wchs_in _ (List.mem_of_getElem? (i := 13) rfl) _ (List.mem_of_getElem? (l := wsL_law_r14) (i := 3) rfl)
theorem a_cw29 : Cond.code a_m29.1 a_m29.2.1 a_m29.2.2.1 a_m29.2.2.2.1 ∈ wsL_law := a_wchs_in _ (List.mem_of_getElem? (i := 9) rfl) _ (List.mem_of_getElem? (l := wsL_law_r10) (i := 3) rfl)
theorem a_cw30 : Cond.code a_m30.1 a_m30.2.1 a_m30.2.2.1 a_m30.2.2.2.1 ∈ wsL_law := a_wchs_in _ (List.mem_of_getElem? (i := 5) rfl) _ (List.mem_of_getElem? (l := wsL_law_r6) (i := 9) rfl)
theorem a_cw31 : Cond.code a_m31.1 a_m31.2.1 a_m31.2.2.1 a_m31.2.2.2.1 ∈ wsL_law := a_wchs_in _ (List.mem_of_getElem? (i := 12) rfl) _ (List.mem_of_getElem? (l := wsL_law_r13) (i := 17) rfl)
theorem a_cw32 : Cond.code a_m32.1 a_m32.2.1 a_m32.2.2.1 a_m32.2.2.2.1 ∈ wsL_law := a_wchs_in _ (List.mem_of_getElem? (i := 13) rfl) _ (List.mem_of_getElem? (l := wsL_law_r14) (i := 11) rfl)
theorem a_cw33 : Cond.code a_m33.1 a_m33.2.1 a_m33.2.2.1 a_m33.2.2.2.1 ∈ wsL_law := a_wchs_in _ (List.mem_of_getElem? (i := 14) rfl) _ (List.mem_of_getElem? (l := wsL_law_r15) (i := 9) rfl)
theorem a_cw34 : Cond.code a_m34.1 a_m34.2.1 a_m34.2.2.1 a_m34.2.2.2.1 ∈ wsL_law := a_wchs_in _ (List.mem_of_getElem? (i := 16) rfl) _ (List.mem_of_getElem? (l := wsL_law_r17) (i := 2) rfl)
theorem a_cw35 : Cond.code a_m35.1 a_m35.2.1 a_m35.2.2.1 a_m35.2.2.2.1 ∈ wsL_law := a_wchs_in _ (List.mem_of_getElem? (i := 15) rfl) _ (List.mem_of_getElem? (l := wsL_law_r16) (i := 4) rfl)
theorem a_cw36 : Cond.code a_m36.1 a_m36.2.1 a_m36.2.2.1 a_m36.2.2.2.1 ∈ wsL_law := a_wchs_in _ (List.mem_of_getElem? (i := 15) rfl) _ (List.mem_of_getElem? (l := wsL_law_r16) (i := 17) rfl)
theorem a_cw37 : Cond.code a_m37.1 a_m37.2.1 a_m37.2.2.1 a_m37.2.2.2.1 ∈ wsL_law := a_wchs_in _ (List.mem_of_getElem? (i := 16) rfl) _ (List.mem_of_getElem? (l := wsL_law_r17) (i := 10) rfl)
theorem a_cw38 : Cond.code a_m38.1 a_m38.2.1 a_m38.2.2.1 a_m38.2.2.2.1 ∈ wsL_law := a_wchs_in _ (List.mem_of_getElem? (i := 17) rfl) _ (List.mem_of_getElem? (l := wsL_law_r18) (i := 17) rfl)
theorem a_cw39 : Cond.code a_m39.1 a_m39.2.1 a_m39.2.2.1 a_m39.2.2.2.1 ∈ wsL_law := a_wchs_in _ (List.mem_of_getElem? (i := 18) rfl) _ (List.mem_of_getElem? (l := wsL_law_r19) (i := 1) rfl)
theorem a_cw40 : Cond.code a_m40.1 a_m40.2.1 a_m40.2.2.1 a_m40.2.2.2.1 ∈ wsL_law := a_wchs_in _ (List.mem_of_getElem? (i := 18) rfl) _ (List.mem_of_getElem? (l := wsL_law_r19) (i := 18) rfl)
theorem a_cw41 : Cond.code a_m41.1 a_m41.2.1 a_m41.2.2.1 a_m41.2.2.2.1 ∈ wsL_law := a_wchs_in _ (List.mem_of_getElem? (i := 18) rfl) _ (List.mem_of_getElem? (l := wsL_law_r19) (i := 22) rfl)
theorem a_cw42 : Cond.code a_m42.1 a_m42.2.1 a_m42.2.2.1 a_m42.2.2.2.1 ∈ wsL_law := a_wchs_in _ (List.mem_of_getElem? (i := 19) rfl) _ (List.mem_of_getElem? (l := wsL_law_r20) (i := 2) rfl)
theorem a_cw43 : Cond.code a_m43.1 a_m43.2.1 a_m43.2.2.1 a_m43.2.2.2.1 ∈ wsL_law := a_wchs_in _ (List.mem_of_getElem? (i := 13) rfl) _ (List.mem_of_getElem? (l := wsL_law_r14) (i := 18) rfl)
theorem a_cw44 : Cond.code a_m44.1 a_m44.2.1 a_m44.2.2.1 a_m44.2.2.2.1 ∈ wsL_law := a_wchs_in _ (List.mem_of_getElem? (i := 19) rfl) _ (List.mem_of_getElem? (l := wsL_law_r20) (i := 14) rfl)
theorem a_cw45 : Cond.code a_m45.1 a_m45.2.1 a_m45.2.2.1 a_m45.2.2.2.1 ∈ wsL_law := a_wchs_in _ (List.mem_of_getElem? (i := 19) rfl) _ (List.mem_of_getElem? (l := wsL_law_r20) (i := 6) rfl)
theorem a_cw46 : Cond.code a_m46.1 a_m46.2.1 a_m46.2.2.1 a_m46.2.2.2.1 ∈ wsL_law := a_wchs_in _ (List.mem_of_getElem? (i := 9) rfl) _ (List.mem_of_getElem? (l := wsL_law_r10) (i := 7) rfl)
theorem a_cw47 : Cond.code a_m47.1 a_m47.2.1 a_m47.2.2.1 a_m47.2.2.2.1 ∈ wsL_law := a_wchs_in _ (List.mem_of_getElem? (i := 19) rfl) _ (List.mem_of_getElem? (l := wsL_law_r20) (i := 10) rfl)
theorem a_cw48 : Cond.code a_m48.1 a_m48.2.1 a_m48.2.2.1 a_m48.2.2.2.1 ∈ wsL_law := a_wchs_in _ (List.mem_of_getElem? (i := 16) rfl) _ (List.mem_of_getElem? (l := wsL_law_r17) (i := 16) rfl)
theorem a_cw49 : Cond.code a_m49.1 a_m49.2.1 a_m49.2.2.1 a_m49.2.2.2.1 ∈ wsL_law := a_wchs_in _ (List.mem_of_getElem? (i := 16) rfl) _ (List.mem_of_getElem? (l := wsL_law_r17) (i := 20) rfl)
theorem a_cw50 : Cond.code a_m50.1 a_m50.2.1 a_m50.2.2.1 a_m50.2.2.2.1 ∈ wsL_law := a_wchs_in _ (List.mem_of_getElem? (i := 17) rfl) _ (List.mem_of_getElem? (l := wsL_law_r18) (i := 0) rfl)
theorem a_cw51 : Cond.code a_m51.1 a_m51.2.1 a_m51.2.2.1 a_m51.2.2.2.1 ∈ wsL_law := a_wchs_in _ (List.mem_of_getElem? (i := 17) rfl) _ (List.mem_of_getElem? (l := wsL_law_r18) (i := 4) rfl)
theorem a_cw52 : Cond.code a_m52.1 a_m52.2.1 a_m52.2.2.1 a_m52.2.2.2.1 ∈ wsL_law := a_wchs_in _ (List.mem_of_getElem? (i := 6) rfl) _ (List.mem_of_getElem? (l := wsL_law_r7) (i := 19) rfl)
theorem a_cw53 : Cond.code a_m53.1 a_m53.2.1 a_m53.2.2.1 a_m53.2.2.2.1 ∈ wsL_law := a_wchs_in _ (List.mem_of_getElem? (i := 7) rfl) _ (List.mem_of_getElem? (l := wsL_law_r8) (i := 3) rfl)
theorem a_cw54 : Cond.code a_m54.1 a_m54.2.1 a_m54.2.2.1 a_m54.2.2.2.1 ∈ wsL_law := a_wchs_in _ (List.mem_of_getElem? (i := 7) rfl) _ (List.mem_of_getElem? (l := wsL_law_r8) (i := 15) rfl)
theorem a_cw55 : Cond.code a_m55.1 a_m55.2.1 a_m55.2.2.1 a_m55.2.2.2.1 ∈ wsL_law := a_wchs_in _ (List.mem_of_getElem? (i := 10) rfl) _ (List.mem_of_getElem? (l := wsL_law_r11) (i := 13) rfl)
theorem a_cw56 : Cond.code a_m56.1 a_m56.2.1 a_m56.2.2.1 a_m56.2.2.2.1 ∈ wsL_law := a_wchs_in _ (List.mem_of_getElem? (i := 4) rfl) _ (List.mem_of_getElem? (l := wsL_law_r5) (i := 18) rfl)
theorem a_cw57 : Cond.code a_m57.1 a_m57.2.1 a_m57.2.2.1 a_m57.2.2.2.1 ∈ wsL_law := a_wchs_in _ (List.mem_of_getElem? (i := 8) rfl) _ (List.mem_of_getElem? (l := wsL_law_r9) (i := 4) rfl)
theorem a_cw58 : Cond.code a_m58.1 a_m58.2.1 a_m58.2.2.1 a_m58.2.2.2.1 ∈ wsL_law := a_wchs_in _ (List.mem_of_getElem? (i := 10) rfl) _ (List.mem_of_getElem? (l := wsL_law_r11) (i := 21) rfl)
theorem a_cw59 : Cond.code a_m59.1 a_m59.2.1 a_m59.2.2.1 a_m59.2.2.2.1 ∈ wsL_law := a_wchs_in _ (List.mem_of_getElem? (i := 5) rfl) _ (List.mem_of_getElem? (l := wsL_law_r6) (i := 15) rfl)
theorem a_cw60 : Cond.code a_m60.1 a_m60.2.1 a_m60.2.2.1 a_m60.2.2.2.1 ∈ wsL_law := a_wchs_in _ (List.mem_of_getElem? (i := 12) rfl) _ (List.mem_of_getElem? (l := wsL_law_r13) (i := 6) rfl)
theorem a_cw61 : Cond.code a_m61.1 a_m61.2.1 a_m61.2.2.1 a_m61.2.2.2.1 ∈ wsL_law := a_wchs_in _ (List.mem_of_getElem? (i := 13) rfl) _ (List.mem_of_getElem? (l := wsL_law_r14) (i := 7) rfl)
theorem a_cw62 : Cond.code a_m62.1 a_m62.2.1 a_m62.2.2.1 a_m62.2.2.2.1 ∈ wsL_law := a_wchs_in _ (List.mem_of_getElem? (i := 14) rfl) _ (List.mem_of_getElem? (l := wsL_law_r15) (i := 5) rfl)
theorem a_cw63 : Cond.code a_m63.1 a_m63.2.1 a_m63.2.2.1 a_m63.2.2.2.1 ∈ wsL_law := a_wchs_in _ (List.mem_of_getElem? (i := 15) rfl) _ (List.mem_of_getElem? (l := wsL_law_r16) (i := 22) rfl)
theorem a_cw64 : Cond.code a_m64.1 a_m64.2.1 a_m64.2.2.1 a_m64.2.2.2.1 ∈ wsL_law := a_wchs_in _ (List.mem_of_getElem? (i := 15) rfl) _ (List.mem_of_getElem? (l := wsL_law_r16) (i := 0) rfl)
theorem a_cw65 : Cond.code a_m65.1 a_m65.2.1 a_m65.2.2.1 a_m65.2.2.2.1 ∈ wsL_law := a_wchs_in _ (List.mem_of_getElem? (i := 15) rfl) _ (List.mem_of_getElem? (l := wsL_law_r16) (i := 9) rfl)
theorem a_cw66 : Cond.code a_m66.1 a_m66.2.1 a_m66.2.2.1 a_m66.2.2.2.1 ∈ wsL_law := a_wchs_in _ (List.mem_of_getElem? (i := 15) rfl) _ (List.mem_of_getElem? (l := wsL_law_r16) (i := 13) rfl)
theorem a_cw67 : Cond.code a_m67.1 a_m67.2.1 a_m67.2.2.1 a_m67.2.2.2.1 ∈ wsL_law := a_wchs_in _ (List.mem_of_getElem? (i := 16) rfl) _ (List.mem_of_getElem? (l := wsL_law_r17) (i := 6) rfl)
theorem a_cw68 : Cond.code a_m68.1 a_m68.2.1 a_m68.2.2.1 a_m68.2.2.2.1 ∈ wsL_law := a_wchs_in _ (List.mem_of_getElem? (i := 17) rfl) _ (List.mem_of_getElem? (l := wsL_law_r18) (i := 13) rfl)
theorem a_cw69 : Cond.code a_m69.1 a_m69.2.1 a_m69.2.2.1 a_m69.2.2.2.1 ∈ wsL_law := a_wchs_in _ (List.mem_of_getElem? (i := 17) rfl) _ (List.mem_of_getElem? (l := wsL_law_r18) (i := 21) rfl)
theorem a_cw70 : Cond.code a_m70.1 a_m70.2.1 a_m70.2.2.1 a_m70.2.2.2.1 ∈ wsL_law := a_wchs_in _ (List.mem_of_getElem? (i := 18) rfl) _ (List.mem_of_getElem? (l := wsL_law_r19) (i := 14) rfl)
theorem a_cw71 : Cond.code a_m71.1 a_m71.2.1 a_m71.2.2.1 a_m71.2.2.2.1 ∈ wsL_law := a_wchs_in _ (List.mem_of_getElem? (i := 9) rfl) _ (List.mem_of_getElem? (l := wsL_law_r10) (i := 3) rfl)
theorem a_cw72 : Cond.code a_m72.1 a_m72.2.1 a_m72.2.2.1 a_m72.2.2.2.1 ∈ wsL_law := a_wchs_in _ (List.mem_of_getElem? (i := 9) rfl) _ (List.mem_of_getElem? (l := wsL_law_r10) (i := 3) rfl)
theorem a_cw73 : Cond.code a_m73.1 a_m73.2.1 a_m73.2.2.1 a_m73.2.2.2.1 ∈ wsL_law := a_wchs_in _ (List.mem_of_getElem? (i := 9) rfl) _ (List.mem_of_getElem? (l := wsL_law_r10) (i := 3) rfl)
theorem a_cw74 : Cond.code a_m74.1 a_m74.2.1 a_m74.2.2.1 a_m74.2.2.2.1 ∈ wsL_law := a_wchs_in _ (List.mem_of_getElem? (i := 9) rfl) _ (List.mem_of_getElem? (l := wsL_law_r10) (i := 3) rfl)
theorem a_cw75 : Cond.code a_m75.1 a_m75.2.1 a_m75.2.2.1 a_m75.2.2.2.1 ∈ wsL_law := a_wchs_in _ (List.mem_of_getElem? (i := 9) rfl) _ (List.mem_of_getElem? (l := wsL_law_r10) (i := 3) rfl)
theorem a_cw76 : Cond.code a_m76.1 a_m76.2.1 a_m76.2.2.1 a_m76.2.2.2.1 ∈ wsL_law := a_wchs_in _ (List.mem_of_getElem? (i := 9) rfl) _ (List.mem_of_getElem? (l := wsL_law_r10) (i := 3) rfl)
theorem a_cw77 : Cond.code a_m77.1 a_m77.2.1 a_m77.2.2.1 a_m77.2.2.2.1 ∈ wsL_law := a_wchs_in _ (List.mem_of_getElem? (i := 9) rfl) _ (List.mem_of_getElem? (l := wsL_law_r10) (i := 3) rfl)
theorem a_cw78 : Cond.code a_m78.1 a_m78.2.1 a_m78.2.2.1 a_m78.2.2.2.1 ∈ wsL_law := a_wchs_in _ (List.mem_of_getElem? (i := 4) rfl) _ (List.mem_of_getElem? (l := wsL_law_r5) (i := 13) rfl)
theorem a_cw79 : Cond.code a_m79.1 a_m79.2.1 a_m79.2.2.1 a_m79.2.2.2.1 ∈ wsL_law := a_wchs_in _ (List.mem_of_getElem? (i := 8) rfl) _ (List.mem_of_getElem? (l := wsL_law_r9) (i := 8) rfl)
theorem a_cw80 : Cond.code a_m80.1 a_m80.2.1 a_m80.2.2.1 a_m80.2.2.2.1 ∈ wsL_law := a_wchs_in _ (List.mem_of_getElem? (i := 8) rfl) _ (List.mem_of_getElem? (l := wsL_law_r9) (i := 23) rfl)
theorem a_cw81 : Cond.code a_m81.1 a_m81.2.1 a_m81.2.2.1 a_m81.2.2.2.1 ∈ wsL_law := a_wchs_in _ (List.mem_of_getElem? (i := 9) rfl) _ (List.mem_of_getElem? (l := wsL_law_r10) (i := 3) rfl)
theorem a_cw82 : Cond.code a_m82.1 a_m82.2.1 a_m82.2.2.1 a_m82.2.2.2.1 ∈ wsL_law := a_wchs_in _ (List.mem_of_getElem? (i := 9) rfl) _ (List.mem_of_getElem? (l := wsL_law_r10) (i := 3) rfl)
theorem a_cw83 : Cond.code a_m83.1 a_m83.2.1 a_m83.2.2.1 a_m83.2.2.2.1 ∈ wsL_law := a_wchs_in _ (List.mem_of_getElem? (i := 9) rfl) _ (List.mem_of_getElem? (l := wsL_law_r10) (i := 3) rfl)
theorem a_cw84 : Cond.code a_m84.1 a_m84.2.1 a_m84.2.2.1 a_m84.2.2.2.1 ∈ wsL_law := a_wchs_in _ (List.mem_of_getElem? (i := 9) rfl) _ (List.mem_of_getElem? (l := wsL_law_r10) (i := 20) rfl)
theorem a_cw85 : Cond.code a_m85.1 a_m85.2.1 a_m85.2.2.1 a_m85.2.2.2.1 ∈ wsL_law := a_wchs_in _ (List.mem_of_getElem? (i := 10) rfl) _ (List.mem_of_getElem? (l := wsL_law_r11) (i := 7) rfl)
theorem a_cw86 : Cond.code a_m86.1 a_m86.2.1 a_m86.2.2.1 a_m86.2.2.2.1 ∈ wsL_law := a_wchs_in _ (List.mem_of_getElem? (i := 9) rfl) _ (List.mem_of_getElem? (l := wsL_law_r10) (i := 3) rfl)
theorem a_cw87 : Cond.code a_m87.1 a_m87.2.1 a_m87.2.2.1 a_m87.2.2.2.1 ∈ wsL_law := a_wchs_in _ (List.mem_of_getElem? (i := 9) rfl) _ (List.mem_of_getElem? (l := wsL_law_r10) (i := 3) rfl)
theorem a_cw88 : Cond.code a_m88.1 a_m88.2.1 a_m88.2.2.1 a_m88.2.2.2.1 ∈ wsL_law := a_wchs_in _ (List.mem_of_getElem? (i := 9) rfl) _ (List.mem_of_getElem? (l := wsL_law_r10) (i := 3) rfl)
theorem a_cw89 : Cond.code a_m89.1 a_m89.2.1 a_m89.2.2.1 a_m89.2.2.2.1 ∈ wsL_law := a_wchs_in _ (List.mem_of_getElem? (i := 9) rfl) _ (List.mem_of_getElem? (l := wsL_law_r10) (i := 3) rfl)
theorem a_cw90 : Cond.code a_m90.1 a_m90.2.1 a_m90.2.2.1 a_m90.2.2.2.1 ∈ wsL_law := a_wchs_in _ (List.mem_of_getElem? (i := 9) rfl) _ (List.mem_of_getElem? (l := wsL_law_r10) (i := 3) rfl)
theorem a_cw91 : Cond.code a_m91.1 a_m91.2.1 a_m91.2.2.1 a_m91.2.2.2.1 ∈ wsL_law := a_wchs_in _ (List.mem_of_getElem? (i := 12) rfl) _ (List.mem_of_getElem? (l := wsL_law_r13) (i := 23) rfl)
theorem a_cw92 : Cond.code a_m92.1 a_m92.2.1 a_m92.2.2.1 a_m92.2.2.2.1 ∈ wsL_law := a_wchs_in _ (List.mem_of_getElem? (i := 5) rfl) _ (List.mem_of_getElem? (l := wsL_law_r6) (i := 2) rfl)
theorem a_cw93 : Cond.code a_m93.1 a_m93.2.1 a_m93.2.2.1 a_m93.2.2.2.1 ∈ wsL_law := a_wchs_in _ (List.mem_of_getElem? (i := 4) rfl) _ (List.mem_of_getElem? (l := wsL_law_r5) (i := 22) rfl)
theorem a_cw94 : Cond.code a_m94.1 a_m94.2.1 a_m94.2.2.1 a_m94.2.2.2.1 ∈ wsL_law := a_wchs_in _ (List.mem_of_getElem? (i := 12) rfl) _ (List.mem_of_getElem? (l := wsL_law_r13) (i := 19) rfl)
theorem a_cw95 : Cond.code a_m95.1 a_m95.2.1 a_m95.2.2.1 a_m95.2.2.2.1 ∈ wsL_law := a_wchs_in _ (List.mem_of_getElem? (i := 7) rfl) _ (List.mem_of_getElem? (l := wsL_law_r8) (i := 20) rfl)
theorem a_cw96 : Cond.code a_m96.1 a_m96.2.1 a_m96.2.2.1 a_m96.2.2.2.1 ∈ wsL_law := a_wchs_in _ (List.mem_of_getElem? (i := 5) rfl) _ (List.mem_of_getElem? (l := wsL_law_r6) (i := 17) rfl)
theorem a_cw97 : Cond.code a_m97.1 a_m97.2.1 a_m97.2.2.1 a_m97.2.2.2.1 ∈ wsL_law := a_wchs_in _ (List.mem_of_getElem? (i := 11) rfl) _ (List.mem_of_getElem? (l := wsL_law_r12) (i := 15) rfl)
theorem a_cw98 : Cond.code a_m98.1 a_m98.2.1 a_m98.2.2.1 a_m98.2.2.2.1 ∈ wsL_law := a_wchs_in _ (List.mem_of_getElem? (i := 11) rfl) _ (List.mem_of_getElem? (l := wsL_law_r12) (i := 23) rfl)
theorem a_cw99 : Cond.code a_m99.1 a_m99.2.1 a_m99.2.2.1 a_m99.2.2.2.1 ∈ wsL_law := a_wchs_in _ (List.mem_of_getElem? (i := 4) rfl) _ (List.mem_of_getElem? (l := wsL_law_r5) (i := 6) rfl)
theorem a_cw100 : Cond.code a_m100.1 a_m100.2.1 a_m100.2.2.1 a_m100.2.2.2.1 ∈ wsL_law := a_wchs_in _ (List.mem_of_getElem? (i := 4) rfl) _ (List.mem_of_getElem? (l := wsL_law_r5) (i := 3) rfl)
theorem a_cw101 : Cond.code a_m101.1 a_m101.2.1 a_m101.2.2.1 a_m101.2.2.2.1 ∈ wsL_law := a_wchs_in _ (List.mem_of_getElem? (i := 4) rfl) _ (List.mem_of_getElem? (l := wsL_law_r5) (i := 9) rfl)
theorem a_cw102 : Cond.code a_m102.1 a_m102.2.1 a_m102.2.2.1 a_m102.2.2.2.1 ∈ wsL_law := a_wchs_in _ (List.mem_of_getElem? (i := 4) rfl) _ (List.mem_of_getElem? (l := wsL_law_r5) (i := 0) rfl)
theorem a_cw103 : Cond.code a_m103.1 a_m103.2.1 a_m103.2.2.1 a_m103.2.2.2.1 ∈ wsL_law := a_wchs_in _ (List.mem_of_getElem? (i := 3) rfl) _ (List.mem_of_getElem? (l := wsL_law_r4) (i := 21) rfl)
theorem a_cw104 : Cond.code a_m104.1 a_m104.2.1 a_m104.2.2.1 a_m104.2.2.2.1 ∈ wsL_law := a_wchs_in _ (List.mem_of_getElem? (i := 18) rfl) _ (List.mem_of_getElem? (l := wsL_law_r19) (i := 7) rfl)
theorem a_cw105 : Cond.code a_m105.1 a_m105.2.1 a_m105.2.2.1 a_m105.2.2.2.1 ∈ wsL_law := a_wchs_in _ (List.mem_of_getElem? (i := 14) rfl) _ (List.mem_of_getElem? (l := wsL_law_r15) (i := 1) rfl)
theorem a_cw106 : Cond.code a_m106.1 a_m106.2.1 a_m106.2.2.1 a_m106.2.2.2.1 ∈ wsL_law := a_wchs_in _ (List.mem_of_getElem? (i := 14) rfl) _ (List.mem_of_getElem? (l := wsL_law_r15) (i := 17) rfl)
theorem a_cw107 : Cond.code a_m107.1 a_m107.2.1 a_m107.2.2.1 a_m107.2.2.2.1 ∈ wsL_law := a_wchs_in _ (List.mem_of_getElem? (i := 11) rfl) _ (List.mem_of_getElem? (l := wsL_law_r12) (i := 12) rfl)
theorem a_cw108 : Cond.code a_m108.1 a_m108.2.1 a_m108.2.2.1 a_m108.2.2.2.1 ∈ wsL_law := a_wchs_in _ (List.mem_of_getElem? (i := 10) rfl) _ (List.mem_of_getElem? (l := wsL_law_r11) (i := 3) rfl)
theorem a_cw109 : Cond.code a_m109.1 a_m109.2.1 a_m109.2.2.1 a_m109.2.2.2.1 ∈ wsL_law := a_wchs_in _ (List.mem_of_getElem? (i := 18) rfl) _ (List.mem_of_getElem? (l := wsL_law_r19) (i := 10) rfl)
theorem a_cw110 : Cond.code a_m110.1 a_m110.2.1 a_m110.2.2.1 a_m110.2.2.2.1 ∈ wsL_law := a_wchs_in _ (List.mem_of_getElem? (i := 12) rfl) _ (List.mem_of_getElem? (l := wsL_law_r13) (i := 2) rfl)
theorem a_cw111 : Cond.code a_m111.1 a_m111.2.1 a_m111.2.2.1 a_m111.2.2.2.1 ∈ wsL_law := a_wchs_in _ (List.mem_of_getElem? (i := 14) rfl) _ (List.mem_of_getElem? (l := wsL_law_r15) (i := 20) rfl)
theorem a_cw112 : Cond.code a_m112.1 a_m112.2.1 a_m112.2.2.1 a_m112.2.2.2.1 ∈ wsL_law := a_wchs_in _ (List.mem_of_getElem? (i := 18) rfl) _ (List.mem_of_getElem? (l := wsL_law_r19) (i := 4) rfl)
theorem a_cw113 : Cond.code a_m113.1 a_m113.2.1 a_m113.2.2.1 a_m113.2.2.2.1 ∈ wsL_law := a_wchs_in _ (List.mem_of_getElem? (i := 11) rfl) _ (List.mem_of_getElem? (l := wsL_law_r12) (i := 19) rfl)
theorem a_cw114 : Cond.code a_m114.1 a_m114.2.1 a_m114.2.2.1 a_m114.2.2.2.1 ∈ wsL_law := a_wchs_in _ (List.mem_of_getElem? (i := 3) rfl) _ (List.mem_of_getElem? (l := wsL_law_r4) (i := 18) rfl)
theorem a_cw_0 : ∀ M ∈ a_mt_0, Cond.code M.1 M.2.1 M.2.2.1 M.2.2.2.1 ∈ wsL_law := List.forall_mem_cons.mpr ⟨a_cw0, List.forall_mem_cons.mpr ⟨a_cw1, List.forall_mem_cons.mpr ⟨a_cw2, List.forall_mem_cons.mpr ⟨a_cw3, List.forall_mem_cons.mpr ⟨a_cw4, List.forall_mem_cons.mpr ⟨a_cw5, List.forall_mem_cons.mpr ⟨a_cw6, List.forall_mem_cons.mpr ⟨a_cw7, List.forall_mem_cons.mpr ⟨a_cw8, List.forall_mem_cons.mpr ⟨a_cw9, List.forall_mem_cons.mpr ⟨a_cw10, List.forall_mem_cons.mpr ⟨a_cw11, List.forall_mem_cons.mpr ⟨a_cw12, List.forall_mem_cons.mpr ⟨a_cw13, List.forall_mem_cons.mpr ⟨a_cw14, List.forall_mem_cons.mpr ⟨a_cw15, fun _ h => absurd h List.not_mem_nil⟩⟩⟩⟩⟩⟩⟩⟩⟩⟩⟩⟩⟩⟩⟩⟩
theorem a_z_0 : ∀ p ∈ a_ct_0.zip a_mt_0, (p.1.all fun e => a_chk p.2 e.1 e.2) = true := List.forall_mem_cons.mpr ⟨a_k0, List.forall_mem_cons.mpr ⟨a_k1, List.forall_mem_cons.mpr ⟨a_k2, List.forall_mem_cons.mpr ⟨a_k3, List.forall_mem_cons.mpr ⟨a_k4, List.forall_mem_cons.mpr ⟨a_k5, List.forall_mem_cons.mpr ⟨a_k6, List.forall_mem_cons.mpr ⟨a_k7, List.forall_mem_cons.mpr ⟨a_k8, List.forall_mem_cons.mpr ⟨a_k9, List.forall_mem_cons.mpr ⟨a_k10, List.forall_mem_cons.mpr ⟨a_k11, List.forall_mem_cons.mpr ⟨a_k12, List.forall_mem_cons.mpr ⟨a_k13, List.forall_mem_cons.mpr ⟨a_k14, List.forall_mem_cons.mpr ⟨a_k15, fun _ h => absurd h List.not_mem_nil⟩⟩⟩⟩⟩⟩⟩⟩⟩⟩⟩⟩⟩⟩⟩⟩
theorem a_cw_1 : ∀ M ∈ a_mt_1, Cond.code M.1 M.2.1 M.2.2.1 M.2.2.2.1 ∈ wsL_law := List.forall_mem_cons.mpr ⟨a_cw16, List.forall_mem_cons.mpr ⟨a_cw17, List.forall_mem_cons.mpr ⟨a_cw18, List.forall_mem_cons.mpr ⟨a_cw19, List.forall_mem_cons.mpr ⟨a_cw20, List.forall_mem_cons.mpr ⟨a_cw21, List.forall_mem_cons.mpr ⟨a_cw22, List.forall_mem_cons.mpr ⟨a_cw23, List.forall_mem_cons.mpr ⟨a_cw24, List.forall_mem_cons.mpr ⟨a_cw25, List.forall_mem_cons.mpr ⟨a_cw26, List.forall_mem_cons.mpr ⟨a_cw27, List.forall_mem_cons.mpr ⟨a_cw28, List.forall_mem_cons.mpr ⟨a_cw29, List.forall_mem_cons.mpr ⟨a_cw30, List.forall_mem_cons.mpr ⟨a_cw31, fun _ h => absurd h List.not_mem_nil⟩⟩⟩⟩⟩⟩⟩⟩⟩⟩⟩⟩⟩⟩⟩⟩
theorem a_z_1 : ∀ p ∈ a_ct_1.zip a_mt_1, (p.1.all fun e => a_chk p.2 e.1 e.2) = true := List.forall_mem_cons.mpr ⟨a_k16, List.forall_mem_cons.mpr ⟨a_k17, List.forall_mem_cons.mpr ⟨a_k18, List.forall_mem_cons.mpr ⟨a_k19, List.forall_mem_cons.mpr ⟨a_k20, List.forall_mem_cons.mpr ⟨a_k21, List.forall_mem_cons.mpr ⟨a_k22, List.forall_mem_cons.mpr ⟨a_k23, List.forall_mem_cons.mpr ⟨a_k24, List.forall_mem_cons.mpr ⟨a_k25, List.forall_mem_cons.mpr ⟨a_k26, List.forall_mem_cons.mpr ⟨a_k27, List.forall_mem_cons.mpr ⟨a_k28, List.forall_mem_cons.mpr ⟨a_k29, List.forall_mem_cons.mpr ⟨a_k30, List.forall_mem_cons.mpr ⟨a_k31, fun _ h => absurd h List.not_mem_nil⟩⟩⟩⟩⟩⟩⟩⟩⟩⟩⟩⟩⟩⟩⟩⟩
theorem a_cw_2 : ∀ M ∈ a_mt_2, Cond.code M.1 M.2.1 M.2.2.1 M.2.2.2.1 ∈ wsL_law := List.forall_mem_cons.mpr ⟨a_cw32, List.forall_mem_cons.mpr ⟨a_cw33, List.forall_mem_cons.mpr ⟨a_cw34, List.forall_mem_cons.mpr ⟨a_cw35, List.forall_mem_cons.mpr ⟨a_cw36, List.forall_mem_cons.mpr ⟨a_cw37, List.forall_mem_cons.mpr ⟨a_cw38, List.forall_mem_cons.mpr ⟨a_cw39, List.forall_mem_cons.mpr ⟨a_cw40, List.forall_mem_cons.mpr ⟨a_cw41, List.forall_mem_cons.mpr ⟨a_cw42, List.forall_mem_cons.mpr ⟨a_cw43, List.forall_mem_cons.mpr ⟨a_cw44, List.forall_mem_cons.mpr ⟨a_cw45, List.forall_mem_cons.mpr ⟨a_cw46, List.forall_mem_cons.mpr ⟨a_cw47, fun _ h => absurd h List.not_mem_nil⟩⟩⟩⟩⟩⟩⟩⟩⟩⟩⟩⟩⟩⟩⟩⟩
theorem a_z_2 : ∀ p ∈ a_ct_2.zip a_mt_2, (p.1.all fun e => a_chk p.2 e.1 e.2) = true := List.forall_mem_cons.mpr ⟨a_k32, List.forall_mem_cons.mpr ⟨a_k33, List.forall_mem_cons.mpr ⟨a_k34, List.forall_mem_cons.mpr ⟨a_k35, List.forall_mem_cons.mpr ⟨a_k36, List.forall_mem_cons.mpr ⟨a_k37, List.forall_mem_cons.mpr ⟨a_k38, List.forall_mem_cons.mpr ⟨a_k39, List.forall_mem_cons.mpr ⟨a_k40, List.forall_mem_cons.mpr ⟨a_k41, List.forall_mem_cons.mpr ⟨a_k42, List.forall_mem_cons.mpr ⟨a_k43, List.forall_mem_cons.mpr ⟨a_k44, List.forall_mem_cons.mpr ⟨a_k45, List.forall_mem_cons.mpr ⟨a_k46, List.forall_mem_cons.mpr ⟨a_k47, fun _ h => absurd h List.not_mem_nil⟩⟩⟩⟩⟩⟩⟩⟩⟩⟩⟩⟩⟩⟩⟩⟩
theorem a_cw_3 : ∀ M ∈ a_mt_3, Cond.code M.1 M.2.1 M.2.2.1 M.2.2.2.1 ∈ wsL_law := List.forall_mem_cons.mpr ⟨a_cw48, List.forall_mem_cons.mpr ⟨a_cw49, List.forall_mem_cons.mpr ⟨a_cw50, List.forall_mem_cons.mpr ⟨a_cw51, List.forall_mem_cons.mpr ⟨a_cw52, List.forall_mem_cons.mpr ⟨a_cw53, List.forall_mem_cons.mpr ⟨a_cw54, List.forall_mem_cons.mpr ⟨a_cw55, List.forall_mem_cons.mpr ⟨a_cw56, List.forall_mem_cons.mpr ⟨a_cw57, List.forall_mem_cons.mpr ⟨a_cw58, List.forall_mem_cons.mpr ⟨a_cw59, List.forall_mem_cons.mpr ⟨a_cw60, List.forall_mem_cons.mpr ⟨a_cw61, List.forall_mem_cons.mpr ⟨a_cw62, List.forall_mem_cons.mpr ⟨a_cw63, fun _ h => absurd h List.not_mem_nil⟩⟩⟩⟩⟩⟩⟩⟩⟩⟩⟩⟩⟩⟩⟩⟩
theorem a_z_3 : ∀ p ∈ a_ct_3.zip a_mt_3, (p.1.all fun e => a_chk p.2 e.1 e.2) = true := List.forall_mem_cons.mpr ⟨a_k48, List.forall_mem_cons.mpr ⟨a_k49, List.forall_mem_cons.mpr ⟨a_k50, List.forall_mem_cons.mpr ⟨a_k51, List.forall_mem_cons.mpr ⟨a_k52, List.forall_mem_cons.mpr ⟨a_k53, List.forall_mem_cons.mpr ⟨a_k54, List.forall_mem_cons.mpr ⟨a_k55, List.forall_mem_cons.mpr ⟨a_k56, List.forall_mem_cons.mpr ⟨a_k57, List.forall_mem_cons.mpr ⟨a_k58, List.forall_mem_cons.mpr ⟨a_k59, List.forall_mem_cons.mpr ⟨a_k60, List.forall_mem_cons.mpr ⟨a_k61, List.forall_mem_cons.mpr ⟨a_k62, List.forall_mem_cons.mpr ⟨a_k63, fun _ h => absurd h List.not_mem_nil⟩⟩⟩⟩⟩⟩⟩⟩⟩⟩⟩⟩⟩⟩⟩⟩
theorem a_cw_4 : ∀ M ∈ a_mt_4, Cond.code M.1 M.2.1 M.2.2.1 M.2.2.2.1 ∈ wsL_law := List.forall_mem_cons.mpr ⟨a_cw64, List.forall_mem_cons.mpr ⟨a_cw65, List.forall_mem_cons.mpr ⟨a_cw66, List.forall_mem_cons.mpr ⟨a_cw67, List.forall_mem_cons.mpr ⟨a_cw68, List.forall_mem_cons.mpr ⟨a_cw69, List.forall_mem_cons.mpr ⟨a_cw70, List.forall_mem_cons.mpr ⟨a_cw71, List.forall_mem_cons.mpr ⟨a_cw72, List.forall_mem_cons.mpr ⟨a_cw73, List.forall_mem_cons.mpr ⟨a_cw74, List.forall_mem_cons.mpr ⟨a_cw75, List.forall_mem_cons.mpr ⟨a_cw76, List.forall_mem_cons.mpr ⟨a_cw77, List.forall_mem_cons.mpr ⟨a_cw78, List.forall_mem_cons.mpr ⟨a_cw79, fun _ h => absurd h List.not_mem_nil⟩⟩⟩⟩⟩⟩⟩⟩⟩⟩⟩⟩⟩⟩⟩⟩
theorem a_z_4 : ∀ p ∈ a_ct_4.zip a_mt_4, (p.1.all fun e => a_chk p.2 e.1 e.2) = true := List.forall_mem_cons.mpr ⟨a_k64, List.forall_mem_cons.mpr ⟨a_k65, List.forall_mem_cons.mpr ⟨a_k66, List.forall_mem_cons.mpr ⟨a_k67, List.forall_mem_cons.mpr ⟨a_k68, List.forall_mem_cons.mpr ⟨a_k69, List.forall_mem_cons.mpr ⟨a_k70, List.forall_mem_cons.mpr ⟨a_k71, List.forall_mem_cons.mpr ⟨a_k72, List.forall_mem_cons.mpr ⟨a_k73, List.forall_mem_cons.mpr ⟨a_k74, List.forall_mem_cons.mpr ⟨a_k75, List.forall_mem_cons.mpr ⟨a_k76, List.forall_mem_cons.mpr ⟨a_k77, List.forall_mem_cons.mpr ⟨a_k78, List.forall_mem_cons.mpr ⟨a_k79, fun _ h => absurd h List.not_mem_nil⟩⟩⟩⟩⟩⟩⟩⟩⟩⟩⟩⟩⟩⟩⟩⟩
theorem a_cw_5 : ∀ M ∈ a_mt_5, Cond.code M.1 M.2.1 M.2.2.1 M.2.2.2.1 ∈ wsL_law := List.forall_mem_cons.mpr ⟨a_cw80, List.forall_mem_cons.mpr ⟨a_cw81, List.forall_mem_cons.mpr ⟨a_cw82, List.forall_mem_cons.mpr ⟨a_cw83, List.forall_mem_cons.mpr ⟨a_cw84, List.forall_mem_cons.mpr ⟨a_cw85, List.forall_mem_cons.mpr ⟨a_cw86, List.forall_mem_cons.mpr ⟨a_cw87, List.forall_mem_cons.mpr ⟨a_cw88, List.forall_mem_cons.mpr ⟨a_cw89, List.forall_mem_cons.mpr ⟨a_cw90, List.forall_mem_cons.mpr ⟨a_cw91, List.forall_mem_cons.mpr ⟨a_cw92, List.forall_mem_cons.mpr ⟨a_cw93, List.forall_mem_cons.mpr ⟨a_cw94, List.forall_mem_cons.mpr ⟨a_cw95, fun _ h => absurd h List.not_mem_nil⟩⟩⟩⟩⟩⟩⟩⟩⟩⟩⟩⟩⟩⟩⟩⟩
theorem a_z_5 : ∀ p ∈ a_ct_5.zip a_mt_5, (p.1.all fun e => a_chk p.2 e.1 e.2) = true := List.forall_mem_cons.mpr ⟨a_k80, List.forall_mem_cons.mpr ⟨a_k81, List.forall_mem_cons.mpr ⟨a_k82, List.forall_mem_cons.mpr ⟨a_k83, List.forall_mem_cons.mpr ⟨a_k84, List.forall_mem_cons.mpr ⟨a_k85, List.forall_mem_cons.mpr ⟨a_k86, List.forall_mem_cons.mpr ⟨a_k87, List.forall_mem_cons.mpr ⟨a_k88, List.forall_mem_cons.mpr ⟨a_k89, List.forall_mem_cons.mpr ⟨a_k90, List.forall_mem_cons.mpr ⟨a_k91, List.forall_mem_cons.mpr ⟨a_k92, List.forall_mem_cons.mpr ⟨a_k93, List.forall_mem_cons.mpr ⟨a_k94, List.forall_mem_cons.mpr ⟨a_k95, fun _ h => absurd h List.not_mem_nil⟩⟩⟩⟩⟩⟩⟩⟩⟩⟩⟩⟩⟩⟩⟩⟩
theorem a_cw_6 : ∀ M ∈ a_mt_6, Cond.code M.1 M.2.1 M.2.2.1 M.2.2.2.1 ∈ wsL_law := List.forall_mem_cons.mpr ⟨a_cw96, List.forall_mem_cons.mpr ⟨a_cw97, List.forall_mem_cons.mpr ⟨a_cw98, List.forall_mem_cons.mpr ⟨a_cw99, List.forall_mem_cons.mpr ⟨a_cw100, List.forall_mem_cons.mpr ⟨a_cw101, List.forall_mem_cons.mpr ⟨a_cw102, List.forall_mem_cons.mpr ⟨a_cw103, List.forall_mem_cons.mpr ⟨a_cw104, List.forall_mem_cons.mpr ⟨a_cw105, List.forall_mem_cons.mpr ⟨a_cw106, List.forall_mem_cons.mpr ⟨a_cw107, List.forall_mem_cons.mpr ⟨a_cw108, List.forall_mem_cons.mpr ⟨a_cw109, List.forall_mem_cons.mpr ⟨a_cw110, List.forall_mem_cons.mpr ⟨a_cw111, fun _ h => absurd h List.not_mem_nil⟩⟩⟩⟩⟩⟩⟩⟩⟩⟩⟩⟩⟩⟩⟩⟩
theorem a_z_6 : ∀ p ∈ a_ct_6.zip a_mt_6, (p.1.all fun e => a_chk p.2 e.1 e.2) = true := List.forall_mem_cons.mpr ⟨a_k96, List.forall_mem_cons.mpr ⟨a_k97, List.forall_mem_cons.mpr ⟨a_k98, List.forall_mem_cons.mpr ⟨a_k99, List.forall_mem_cons.mpr ⟨a_k100, List.forall_mem_cons.mpr ⟨a_k101, List.forall_mem_cons.mpr ⟨a_k102, List.forall_mem_cons.mpr ⟨a_k103, List.forall_mem_cons.mpr ⟨a_k104, List.forall_mem_cons.mpr ⟨a_k105, List.forall_mem_cons.mpr ⟨a_k106, List.forall_mem_cons.mpr ⟨a_k107, List.forall_mem_cons.mpr ⟨a_k108, List.forall_mem_cons.mpr ⟨a_k109, List.forall_mem_cons.mpr ⟨a_k110, List.forall_mem_cons.mpr ⟨a_k111, fun _ h => absurd h List.not_mem_nil⟩⟩⟩⟩⟩⟩⟩⟩⟩⟩⟩⟩⟩⟩⟩⟩
theorem a_cw_7 : ∀ M ∈ a_mt_7, Cond.code M.1 M.2.1 M.2.2.1 M.2.2.2.1 ∈ wsL_law := List.forall_mem_cons.mpr ⟨a_cw112, List.forall_mem_cons.mpr ⟨a_cw113, List.forall_mem_cons.mpr ⟨a_cw114, fun _ h => absurd h List.not_mem_nil⟩⟩⟩
theorem a_z_7 : ∀ p ∈ a_ct_7.zip a_mt_7, (p.1.all fun e => a_chk p.2 e.1 e.2) = true := List.forall_mem_cons.mpr ⟨a_k112, List.forall_mem_cons.mpr ⟨a_k113, List.forall_mem_cons.mpr ⟨a_k114, fun _ h => absurd h List.not_mem_nil⟩⟩⟩
theorem a_cws : ∀ M ∈ a_mtl, Cond.code M.1 M.2.1 M.2.2.1 M.2.2.2.1 ∈ wsL_law := by
  unfold a_mtl
  exact (by
  rw [List.forall_mem_append]
  exact ⟨a_cw_0, (by
  rw [List.forall_mem_append]
  exact ⟨a_cw_1, (by
  rw [List.forall_mem_append]
  exact ⟨a_cw_2, (by
  rw [List.forall_mem_append]
  exact ⟨a_cw_3, (by
  rw [List.forall_mem_append]
  exact ⟨a_cw_4, (by
  rw [List.forall_mem_append]
  exact ⟨a_cw_5, (by
  rw [List.forall_mem_append]
  exact ⟨a_cw_6, a_cw_7⟩)⟩)⟩)⟩)⟩)⟩)⟩)
theorem a_zl : ∀ p ∈ a_ctl.zip a_mtl, (p.1.all fun e => a_chk p.2 e.1 e.2) = true := by
  unfold a_ctl a_mtl
  exact (by
  rw [List.zip_append (show a_ct_0.length = a_mt_0.length from rfl), List.forall_mem_append]
  exact ⟨a_z_0, (by
  rw [List.zip_append (show a_ct_1.length = a_mt_1.length from rfl), List.forall_mem_append]
  exact ⟨a_z_1, (by
  rw [List.zip_append (show a_ct_2.length = a_mt_2.length from rfl), List.forall_mem_append]
  exact ⟨a_z_2, (by
  rw [List.zip_append (show a_ct_3.length = a_mt_3.length from rfl), List.forall_mem_append]
  exact ⟨a_z_3, (by
  rw [List.zip_append (show a_ct_4.length = a_mt_4.length from rfl), List.forall_mem_append]
  exact ⟨a_z_4, (by
  rw [List.zip_append (show a_ct_5.length = a_mt_5.length from rfl), List.forall_mem_append]
  exact ⟨a_z_5, (by
  rw [List.zip_append (show a_ct_6.length = a_mt_6.length from rfl), List.forall_mem_append]
  exact ⟨a_z_6, a_z_7⟩)⟩)⟩)⟩)⟩)⟩)⟩)
theorem a_lenl : a_ctl.length = a_mtl.length := by decide +kernel
theorem a_z : ∀ p ∈ a_ct.zip a_mt, (p.1.all fun e => a_chk p.2 e.1 e.2) = true := by
  unfold a_ct a_mt
  rw [List.zip_append a_lenl, List.forall_mem_append]
  exact ⟨a_zl, List.forall_mem_cons.mpr ⟨a_k115, fun _ h => absurd h List.not_mem_nil⟩⟩
end
section
/-! the abstract machine's runs, sound against the machine -/
theorem a_lkm {k : Nat} {v : aR} : ∀ {l : List (Nat × aR)}, l.lookup k = some v → (k, v) ∈ l
  | [], h => by cases h
  | (a, b) :: l, h => by
    rw [List.lookup_cons] at h
    by_cases hk : k = a
    · subst hk
      simp only [BEq.rfl] at h
      cases h
      exact List.mem_cons_self
    · rw [show (k == a) = false by simpa using hk] at h
      exact List.mem_cons_of_mem _ (a_lkm h)
theorem a_len_eq : a_ct.length = a_mt.length := by decide +kernel
theorem a_look_ok {q pc : Nat} {r : aR} (h : a_look q pc = some r) : ∃ M, a_mt[q]? = some M ∧ a_chk M pc r = true := by
  unfold a_look at h
  rw [List.getD_eq_getElem?_getD] at h
  cases hc : a_ct[q]? with
  | none => rw [hc] at h; cases h
  | some c =>
    rw [hc] at h
    have hm := a_lkm h
    have hq := (List.getElem?_eq_some_iff.mp hc).1
    have hM : a_mt[q]? = some (a_mt[q]'(a_len_eq ▸ hq)) := List.getElem?_eq_getElem _
    refine ⟨_, hM, ?_⟩
    have hz : (a_ct.zip a_mt)[q]? = some (c, a_mt[q]'(a_len_eq ▸ hq)) := List.getElem?_zip_eq_some.mpr ⟨hc, hM⟩
    exact List.all_eq_true.mp (a_z _ (List.mem_of_getElem? hz)) (pc, r) hm
theorem a_mtl_ok {q : Nat} {M : aMt} (h : a_mt[q]? = some M) (hq : q < 115) : M ∈ a_mtl := by
  unfold a_mt at h
  rw [List.getElem?_append_left (show q < a_mtl.length by rw [show a_mtl.length = 115 by decide +kernel]; exact hq)] at h
  exact List.mem_of_getElem? h
theorem a_step_keeps {ins : Instr} {a b pc : Nat} {ls : aL} {st : List aV} {m : aM} {pc1 : Nat} {ls1 : aL} {st1 : List aV} {m1 : aM} (h : a_step ins a b pc ls st m = some (pc1, ls1, st1, m1)) : ∀ c, 41 ≤ c → m1 c = m c := by
  cases ins with
  | aload_n kk => obtain ⟨_, _, _, h⟩ := a_lr_i h; cases h; exact fun _ _ => rfl
  | aload kk => obtain ⟨_, _, _, h⟩ := a_lr_i h; cases h; exact fun _ _ => rfl
  | iload_n kk => obtain ⟨_, _, h⟩ := a_l1_i h; cases h; exact fun _ _ => rfl
  | iload kk => obtain ⟨_, _, h⟩ := a_l1_i h; cases h; exact fun _ _ => rfl
  | istore_n kk => obtain ⟨_, _, _, h⟩ := a_p1_i h; obtain ⟨_, h⟩ := a_if_i h; cases h; exact fun _ _ => rfl
  | istore kk => obtain ⟨_, _, _, h⟩ := a_p1_i h; obtain ⟨_, h⟩ := a_if_i h; cases h; exact fun _ _ => rfl
  | astore_n kk => obtain ⟨_, _, _, _, h⟩ := a_pr_i h; obtain ⟨_, h⟩ := a_if_i h; cases h; exact fun _ _ => rfl
  | iinc kk n => obtain ⟨_, _, h⟩ := a_l1_i h; obtain ⟨_, h⟩ := a_if_i h; cases h; exact fun _ _ => rfl
  | iconst n => cases h; exact fun _ _ => rfl
  | bipush n => cases h; exact fun _ _ => rfl
  | sipush n => cases h; exact fun _ _ => rfl
  | iadd => obtain ⟨_, _, _, _, h⟩ := a_p2_i h; cases h; exact fun _ _ => rfl
  | isub => obtain ⟨_, _, _, _, h⟩ := a_p2_i h; cases h; exact fun _ _ => rfl
  | imul => obtain ⟨_, _, _, _, h⟩ := a_p2_i h; cases h; exact fun _ _ => rfl
  | iand => obtain ⟨_, _, _, _, h⟩ := a_p2_i h; cases h; exact fun _ _ => rfl
  | ixor => obtain ⟨_, _, _, _, h⟩ := a_p2_i h; cases h; exact fun _ _ => rfl
  | ishr => obtain ⟨_, _, _, _, h⟩ := a_p2_i h; cases h; exact fun _ _ => rfl
  | ldc idx => cases h; exact fun _ _ => rfl
  | idiv => obtain ⟨_, _, _, _, h⟩ := a_p2_i h; obtain ⟨_, h⟩ := a_if_i h; cases h; exact fun _ _ => rfl
  | irem => obtain ⟨_, _, _, _, h⟩ := a_p2_i h; obtain ⟨_, h⟩ := a_if_i h; cases h; exact fun _ _ => rfl
  | dup => obtain ⟨_, _, _, h⟩ := a_p0_i h; cases h; exact fun _ _ => rfl
  | dup2 => obtain ⟨_, _, _, _, h⟩ := a_pv_i h; cases h; exact fun _ _ => rfl
  | pop => obtain ⟨_, _, _, h⟩ := a_p0_i h; cases h; exact fun _ _ => rfl
  | goto o => cases h; exact fun _ _ => rfl
  | ifCond cnd o => obtain ⟨_, _, _, h⟩ := a_p1_i h; cases h; exact fun _ _ => rfl
  | if_icmp cnd o => obtain ⟨_, _, _, _, h⟩ := a_p2_i h; cases h; exact fun _ _ => rfl
  | tableswitch dflt lo hi offs => obtain ⟨_, _, _, h⟩ := a_p1_i h; obtain ⟨_, h⟩ := a_if_i h; cases h; exact fun _ _ => rfl
  | lookupswitch dflt ps => obtain ⟨_, _, _, h⟩ := a_p1_i h; obtain ⟨_, h⟩ := a_if_i h; cases h; exact fun _ _ => rfl
  | getfield idx =>
    obtain ⟨_, _, _, _, h⟩ := a_pr_i h
    obtain ⟨_, h⟩ := a_if_i h
    split at h <;> (cases h; exact fun _ _ => rfl)
  | putfield idx =>
    obtain ⟨x, c1, d1, t, rfl, h⟩ := a_p1r_i h
    obtain ⟨⟨⟨hkd, -⟩, -⟩, h⟩ := a_if_i h
    cases h
    have hc41 : c1 < 40 := a_kd_3 (by rw [hkd]; exact Nat.zero_le _)
    exact fun c' hc' => a_up_c _ _ _ _ _ _ (by omega)
  | getstatic idx => cases h; exact fun _ _ => rfl
  | iaload => obtain ⟨_, _, _, _, _, h⟩ := a_p1r_i h; obtain ⟨_, h⟩ := a_if_i h; cases h; exact fun _ _ => rfl
  | baload => obtain ⟨_, _, _, _, _, h⟩ := a_p1r_i h; obtain ⟨_, h⟩ := a_if_i h; cases h; exact fun _ _ => rfl
  | aaload => obtain ⟨_, _, _, _, _, h⟩ := a_p1r_i h; obtain ⟨_, h⟩ := a_if_i h; cases h; exact fun _ _ => rfl
  | iastore =>
    obtain ⟨x, i, c1, d1, t, rfl, h⟩ := a_p2r_i h
    obtain ⟨⟨ht, -⟩, h⟩ := a_if_i h
    cases h
    have hc41 : c1 < 40 := a_kd_3 (by omega)
    exact fun c' hc' => a_up_c _ _ _ _ _ _ (by omega)
  | bastore =>
    obtain ⟨x, i, c1, d1, t, rfl, h⟩ := a_p2r_i h
    obtain ⟨⟨⟨ht, -⟩, -⟩, h⟩ := a_if_i h
    cases h
    have hc41 : c1 < 40 := a_kd_3 (by omega)
    exact fun c' hc' => a_up_c _ _ _ _ _ _ (by omega)
  | arraylength => obtain ⟨_, _, _, _, h⟩ := a_pr_i h; obtain ⟨_, h⟩ := a_if_i h; cases h; exact fun _ _ => rfl
  | invokestatic idx =>
    change (if a = 1000 then _ else _) = some _ at h
    by_cases ha : a = 1000
    · rw [if_pos ha] at h
      obtain ⟨_, _, _, _, h⟩ := a_p2_i h; obtain ⟨_, h⟩ := a_if_i h; cases h; exact fun _ _ => rfl
    · rw [if_neg ha] at h
      by_cases ha1 : a = 1001
      · rw [if_pos ha1] at h
        obtain ⟨n, dp, c1, b1, sp, c0, b0, rfl, h⟩ := a_pcp_i h
        obtain ⟨⟨⟨t0, t1⟩, -⟩, h⟩ := a_if_i h
        cases h
        have hc1 : c1 < 40 := a_kd_3 (by omega)
        intro c' hc'
        funext b' j
        show (if c' = c1 ∧ b' = b1 then _ else _) = _
        rw [if_neg (fun q => by omega)]
      · rw [if_neg ha1] at h
        cases h
  | _ => exact absurd h (fun q => by cases (show (none : Option aS) = some _ from q))
theorem a_run_keeps : ∀ (n : Nat) {q pc : Nat} {ls : aL} {st : List aV} {m : aM} {r : Option aV} {m' : aM}, a_run n q pc ls st m = some (r, m') → ∀ c, 41 ≤ c → m' c = m c := by
  intro n
  induction n with
  | zero => intro q pc ls st m r m' h; cases h
  | succ n ih =>
    intro q pc ls st m r m' h
    unfold a_run at h
    split at h
    · cases h
    · split at h
      · rename_i hst
        exact fun c hc => (ih h c hc).trans (a_step_keeps hst c hc)
      · split at h
        · split at h
          · rename_i h1
            exact fun c hc => (ih h c hc).trans (ih h1 c hc)
          · cases h
        · split at h
          · cases h; exact fun _ _ => rfl
          · cases h
theorem a_ret_int {ret : Option FieldType} {ins : Instr} {st : List aV} {r : Option aV} (h : a_ret ret ins st = some r) : r = none ∨ ∃ v, r = some (.inl v) := by
  unfold a_ret at h
  split at h
  · cases h; exact Or.inr ⟨_, rfl⟩
  · obtain ⟨-, h⟩ := a_if_i h; cases h; exact Or.inr ⟨_, rfl⟩
  · cases h; exact Or.inl rfl
  · cases h
theorem a_run_int : ∀ (n : Nat) {q pc : Nat} {ls : aL} {st : List aV} {m : aM} {r : Option aV} {m' : aM}, a_run n q pc ls st m = some (r, m') → r = none ∨ ∃ v, r = some (.inl v) := by
  intro n
  induction n with
  | zero => intro q pc ls st m r m' h; cases h
  | succ n ih =>
    intro q pc ls st m r m' h
    unfold a_run at h
    split at h
    · cases h
    · split at h
      · exact ih h
      · split at h
        · split at h
          · exact ih h
          · cases h
        · split at h
          · rename_i hr
            cases h
            exact a_ret_int hr
          · cases h
def a_Pre (base : Nat) (D : va_G) (g : aG) (m : aM) (U : State) : Prop := a_Dyn base D g m U.heap ∧ a_Sta base D g m U
def a_Qc (base : Nat) (D : va_G) (g : aG) (r : Option aV) (m : aM) : Array Value → State → Outcome → State → Prop := match r with
  | some (.inl v) => va_Qi (S := Unit) (fun x _ => x = v) (fun _ t => a_Pre base D g m t) (a_A base)
  | none => va_Qv (S := Unit) (fun _ => True) (fun _ t => a_Pre base D g m t) (a_A base)
  | some (.inr _) => fun _ _ _ _ => False
def a_RM (d : Nat) : Room := { frames := d, cells := 0, slots := 0, locals := 40 * d }
theorem a_Sta_m {base : Nat} {D : va_G} {g : aG} {m m' : aM} {U : State} (hm : ∀ c, 41 ≤ c → m' c = m c) (h : a_Sta base D g m U) : a_Sta base D g m' U := by
  obtain ⟨a1, a2, a3, a6⟩ := h
  refine ⟨a1, fun c q1 q2 => ?_, ?_, a6⟩
  · rw [hm c q1]; exact a2 c q1 q2
  · rw [hm 46 (by omega), hm 47 (by omega)]; exact a3
theorem a_blind {base : Nat} {D : va_G} {g : aG} {m : aM} {as : List Value} : FrameBlind (va_Pc as (fun U => a_Pre base D g m U)) := fun _ U _ _ q => ⟨q.1, q.2.1, a_Sta_same (u := U) rfl rfl q.2.2⟩
/-- what the soundness of runs of n steps says -/
def a_Snd (l : Launch) (base : Nat) (D : va_G) (g : aG) (n : Nat) : Prop :=
  ∀ (q pc : Nat) (ls : aL) (st : List aV) (m : aM) (r : Option aV) (m' : aM), a_run n q pc ls st m = some (r, m') →
  ∀ (p : Program) (e : Env) (R : Room) (s : State) (mI : MethodId) (args : Array Value) (below : List Frame) (meth : Method) (cd : Code) (cells slots : Nat) (Q : State → Prop) (M : aMt), a_mt[q]? = some M →
  p.tables.exec = Jvm.exec → cd.code = M.2.1 → cd.maxLocals = M.2.2.1 → s.vm.findClass M.1.cls = some mI.cls → (∀ w ∈ wsL_law, w.before args s = true) →
  (M.2.2.2.2.1 ≤ R.frames ∧ 40 * M.2.2.2.2.1 ≤ R.locals ∧ cells ≤ R.cells ∧ slots ≤ R.slots) → a_Sta base D g m s → ∀ (H : Heap) (locs : List Loc), a_Dyn base D g m H → va_S (a_A base) s.heap H locs →
  ∀ (ls' : Array Slot), a_LS g ls ls' M.2.2.1 → (∀ v ∈ st, a_vv v) →
  (∀ (H1 : Heap) (locs1 : List Loc) (ls1 : Array Slot) (pc1 : Nat) (ins : Instr) (st1 : List aV), decode M.2.1 pc1 = .ok (ins, 1) → a_ret M.2.2.2.1 ins st1 = some r → a_Dyn base D g m' H1 → va_S (a_A base) s.heap H1 locs1 → (∀ c, 41 ≤ c → m' c = m c) →
    W p l e R s mI args below meth cd H1 locs1 cells slots Q (F0 mI pc1 ls1 (st1.map (a_cv g.2.2.2)))) →
  W p l e R s mI args below meth cd H locs cells slots Q (F0 mI pc ls' (st.map (a_cv g.2.2.2)))
theorem a_sl_len (ad : Nat → Nat → Nat) : ∀ as : List aV, (lg_sl (as.map (a_cv ad))).length = as.length
  | [] => rfl
  | v :: as => by
    have := a_sl_len ad as
    unfold lg_sl at this ⊢
    rw [List.map_cons, List.flatMap_cons, if_neg (by rw [a_cv_cat]; decide), List.length_append, this]
    show 1 + as.length = _
    rw [List.length_cons]
    omega
theorem a_good : GoodIn wsL_law wsL_law := fun w hw => ⟨hw, good_of_word (List.all_eq_true.mp (show wsL_law.all goodWord = true by decide +kernel) w hw)⟩
set_option maxHeartbeats 4000000 in
theorem a_met {l : Launch} {base : Nat} {D : va_G} {g : aG} {n : Nat} (hs : a_Snd l base D g n) {q : Nat} {as : List aV} {m : aM} {r : Option aV} {m' : aM} (hrun : a_run n q 0 (a_ent q as) [] m = some (r, m')) {y : MethodName} {cc : ByteArray} {maxL : Nat} {ret : Option FieldType} {dep k0 k1 k2 k3 k4 : Nat} (hM : a_mt[q]? = some (y, cc, maxL, ret, dep, k0, k1, k2, k3, k4)) (hpl : plainName y.cls = true) (hlen : as.length ≤ maxL) (hv : ∀ v ∈ as, a_vv v) :
    Met l y (Cond.code y cc maxL ret :: wsL_law) (a_RM dep) (va_Pc (as.map (a_cv g.2.2.2)) (fun U => a_Pre base D g m U)) (a_Qc base D g r m') 0 0 (a_A base) := by
  refine Met.ofW (cc := cc) (maxL := maxL) (ret := ret) hpl rfl ?_
  intro p e s mI args below meth cd s₁ B hml hv0
  obtain ⟨rfl, hpre⟩ := hv0
  have hts := atoms_spec (ws := Cond.code y cc maxL ret :: wsL_law) B.pre
  have hown : s.vm.findClass y.cls = some mI.cls := findClass_of_methodNamed B.named
  have hlocks := B.notSynchronized
  have hr := B.returns
  rw [lg_entry_eq]
  have hl := lv_entry (as.map (a_cv g.2.2.2)) (n := maxL) (by rw [a_sl_len]; exact hlen)
  generalize (lg_sl (as.map (a_cv g.2.2.2)) ++ List.replicate (maxL - (lg_sl (as.map (a_cv g.2.2.2))).length) Slot.unset).toArray = ls at hl ⊢
  have hent : a_ent q as = as.map some ++ List.replicate (maxL - as.length) none := by
    unfold a_ent a_ml
    rw [hM]
  have hLS : a_LS g (a_ent q as) ls maxL := by
    rw [hent]
    exact a_LS_entry as hlen hv hl
  refine hs q 0 (a_ent q as) [] m r m' hrun p e _ s mI _ below meth cd 0 0 _ _ hM B.exec B.bytes hml hown (fun w hw => hts w (List.mem_cons_of_mem _ hw)) ⟨Nat.le_refl _, Nat.le_refl _, Nat.le_refl _, Nat.le_refl _⟩ hpre.2 s.heap [] hpre.1 va_S.rf ls hLS (fun v h9 => absurd h9 List.not_mem_nil) ?_
  intro H1 locs1 ls1 pc1 ins st1 hd hret hD1 hS1 hm1
  have hPt : ∀ t : State, t.heap = H1 → s.WarmedH t.vm → a_Pre base D g m' t := fun t ht hW => ⟨ht ▸ hD1, a_Sta_moved hW (by rw [ht]; exact hS1.1) (by rw [ht]; exact hS1.2.1) hm1 hpre.2⟩
  dsimp only at hd hret
  unfold a_ret at hret
  split at hret
  · rename_i v
    cases hret
    exact W.iret (v := v) B.exec B.bytes hr (fun t ht hW => ⟨⟨v, (), rfl, rfl, hPt t ht hW⟩, hS1.F ht⟩) hS1.2.2 hd
  · rename_i v
    obtain ⟨h01, hret⟩ := a_if_i hret
    cases hret
    exact W.zret (v := v) (ty := .boolean) B.exec B.bytes hr (by rcases h01 with rfl | rfl <;> decide) (fun t ht hW => ⟨⟨v, (), rfl, rfl, hPt t ht hW⟩, hS1.F ht⟩) hS1.2.2 hd
  · cases hret
    exact W.vret B.exec B.bytes hr (fun t ht hW => ⟨⟨(), rfl, trivial, hPt t ht hW⟩, hS1.F ht⟩) hS1.2.2 hd
  · cases hret
theorem a_cat_len (ad : Nat → Nat → Nat) : ∀ t : List aV, ((t.map (a_cv ad)).map fun v => v.category).sum = t.length
  | [] => rfl
  | v :: t => by rw [List.map_cons, List.map_cons, List.sum_cons, a_cat_len ad t, a_cv_cat, List.length_cons]; omega
set_option maxHeartbeats 8000000 in
theorem a_sound (l : Launch) (base : Nat) (D : va_G) (g : aG) : ∀ n, a_Snd l base D g n := by
  intro n
  induction n with
  | zero => intro q pc ls st m r m' h; cases h
  | succ n ih =>
    intro q pc ls st m r m' h p e R s mI args below meth cd cells slots Q M hM hexec hb hml hown hts hR hSt H locs hDy hS ls' hl hv hret
    unfold a_run at h
    cases hlk : a_look q pc with
    | none => rw [hlk] at h; cases h
    | some rw0 =>
      obtain ⟨ins, a, b, w⟩ := rw0
      rw [hlk] at h
      dsimp only at h
      obtain ⟨M', hM', hchk⟩ := a_look_ok hlk
      obtain rfl : M' = M := Option.some.inj (hM'.symm.trans hM)
      cases hst : a_step ins a b pc ls st m with
      | some z =>
        obtain ⟨pc1, ls1, st1, m1⟩ := z
        rw [hst] at h
        dsimp only at h
        exact a_snd_step hexec hb hml hown hts hR hSt hDy hS hl hv hchk hst (fun H1 locs1 ls1' hDy1 hS1 hl1 hv1 hm1 => ih q pc1 ls1 st1 m1 r m' h p e R s mI args below meth cd cells slots Q M' hM hexec hb hml hown hts hR (a_Sta_m hm1 hSt) H1 locs1 hDy1 hS1 ls1' hl1 hv1 (fun H2 locs2 ls2 pc2 ins2 st2 hd hr hD2 hS2 hm2 => hret H2 locs2 ls2 pc2 ins2 st2 hd hr hD2 hS2 (fun c hc => (hm2 c hc).trans (hm1 c hc))))
      | none =>
        rw [hst] at h
        dsimp only at h
        unfold a_chk at hchk
        rw [Bool.and_eq_true] at hchk
        obtain ⟨hdg, hc2⟩ := hchk
        have hdg := of_decide_eq_true hdg
        cases hcl : a_call ins a b st with
        | none =>
          rw [hcl] at h
          dsimp only at h
          cases hr : a_ret (a_rt q) ins st with
          | none => rw [hr] at h; cases h
          | some r0 =>
            rw [hr] at h
            dsimp only at h
            cases h
            have hrt : a_rt q = M'.2.2.2.1 := by unfold a_rt; rw [hM]
            rw [hrt] at hr
            have h1 : a_len ins b = 1 := by
              unfold a_ret at hr
              split at hr
              · rfl
              · rfl
              · rfl
              · cases hr
            rw [h1] at hdg
            exact hret H locs ls' pc ins st hdg hr hDy hS (fun _ _ => rfl)
        | some z =>
          obtain ⟨as, t⟩ := z
          rw [hcl] at h
          dsimp only at h
          cases hr1 : a_run n a 0 (a_ent a as) [] m with
          | none => rw [hr1] at h; cases h
          | some z1 =>
            obtain ⟨r1, m1⟩ := z1
            rw [hr1] at h
            dsimp only at h
            have hm1 := a_run_keeps n hr1
            -- the call
            have key : va_Run p l e R s mI args below meth cd H locs cells slots 0 0 (F0 mI pc ls' (st.map (a_cv g.2.2.2))) (t.map (a_cv g.2.2.2)) (a_Qc base D g r1 m1 (as.map (a_cv g.2.2.2)).toArray) (a_A base) ∧ ∀ v ∈ t, a_vv v := by
              have hPc : ∀ U : State, U.heap = H → s.WarmedH U.vm → va_Pc (as.map (a_cv g.2.2.2)) (fun U => a_Pre base D g m U) (as.map (a_cv g.2.2.2)).toArray U := fun U hU hW => ⟨rfl, hU ▸ hDy, a_Sta_moved hW (by rw [hU]; exact hS.1) (by rw [hU]; exact hS.2.1) (fun _ _ => rfl) hSt⟩
              cases ins with
              | invokevirtual i =>
                unfold a_call at hcl
                obtain ⟨⟨⟨hn1, hn2⟩, hrcv⟩, hcl⟩ := a_if_i hcl
                have hast : as = (st.take b).reverse ∧ t = st.drop b := by cases hcl; exact ⟨rfl, rfl⟩
                have hsplit : st = as.reverse ++ t := by rw [hast.1, hast.2, List.reverse_reverse, List.take_append_drop]
                have haslen : as.length = b := by rw [hast.1, List.length_reverse, List.length_take]; omega
                have htlen : t.length ≤ 8 := by rw [hast.2, List.length_drop]; omega
                rw [← hast.1] at hrcv
                have hvas : ∀ v ∈ as, a_vv v := fun v h9 => hv v (by rw [hsplit]; exact List.mem_append_left _ (List.mem_reverse.mpr h9))
                have hvt : ∀ v ∈ t, a_vv v := fun v h9 => hv v (by rw [hsplit]; exact List.mem_append_right _ h9)
                refine ⟨?_, hvt⟩
                dsimp only at hc2
                cases hq2 : a_mt[a]? with
                | none => rw [hq2] at hc2; cases hc2
                | some M2 =>
                  obtain ⟨y, cc, maxL, ret, dep, ci, k1, k2, k3, k4⟩ := M2
                  rw [hq2] at hc2
                  simp only [Bool.and_eq_true, decide_eq_true_eq] at hc2
                  obtain ⟨⟨⟨⟨⟨⟨hw, hw1⟩, hw2⟩, hdep⟩, hnp, hb1, hbL⟩, hcn⟩, ha115⟩ := hc2
                  have hmok := a_moks _ (a_mtl_ok hq2 ha115)
                  have hwc := a_cws _ (a_mtl_ok hq2 ha115)
                  simp only [a_mok, Bool.and_eq_true, decide_eq_true_eq] at hmok
                  obtain ⟨⟨⟨hwi, hny⟩, hpl⟩, hL9⟩ := hmok
                  have hMet := a_met (D := D) (g := g) (base := base) (l := l) ih hr1 hq2 hpl (by rw [haslen]; exact hbL) hvas
                  cases as with
                  | nil => simp at haslen; omega
                  | cons v0 As =>
                    cases v0 with
                    | inl x => cases hrcv
                    | inr r0 =>
                      obtain ⟨c0, d0⟩ := r0
                      have hkd := of_decide_eq_true (show decide (a_kd c0 = (0, a_ci a)) = true from hrcv)
                      have hci : a_ci a = ci := by unfold a_ci; rw [hq2]
                      rw [hci] at hkd
                      have hvr : a_vr c0 d0 := hvas (.inr (c0, d0)) List.mem_cons_self
                      have hc41 : c0 < 40 := a_kd_3 (by rw [hkd]; exact Nat.zero_le _)
                      have hws := a_ws_get g m hvr hc41
                      have hcell : a_cell g m c0 d0 = .inr (ci, (List.range (a_nf c0)).map (a_fv g.2.2.2 m c0 d0)) := by simp only [a_cell, hkd]
                      rw [hcell] at hws
                      cases hqc : vwCl[ci]? with
                      | none => rw [hqc] at hcn; cases hcn
                      | some qc =>
                        rw [hqc] at hcn
                        have hcn : qc.1 = y.cls := Option.some.inj hcn
                        have hrecv := va_recv hSt.1 hDy.1 hqc hws
                        rw [hcn] at hrecv
                        have hAn : As.length = b - 1 := by simp at haslen; omega
                        exact va_runV (b := g.2.2.2 c0 d0) (As := As.map (a_cv g.2.2.2)) (rest := t.map (a_cv g.2.2.2)) ⟨hexec, hb, hml, hown, hts⟩ hMet
                          ⟨callB_of (ws' := wsL_law) (b - 1) hts (fun w h9 => (List.mem_cons.mp h9).elim (fun q => by rw [q]; exact a_good _ hwc) (fun q => a_good w q)) rfl rfl rfl (hts _ (a_wsp hwi)) (hts _ (a_wsp hw)) ⟨hny.1, hny.2, hnp⟩ ⟨by show dep + 1 ≤ _; omega, by show 8 + (maxL + 11) + 40 * dep ≤ _; omega⟩, hts _ (a_wsp hw1), hts _ (a_wsp hw2)⟩
                          ⟨a_blind, hrecv, hPc⟩ rfl (by rw [List.length_map]; exact hAn) hl.1
                          (by show st.map _ = _; rw [hsplit, List.map_append, List.map_reverse, List.map_cons, List.reverse_cons, List.append_assoc]; rfl)
                          (lv_room (by rw [a_cat_len]; exact htlen)) hdg ⟨hR.2.2.1, hR.2.2.2⟩
              | invokestatic i =>
                unfold a_call at hcl
                obtain ⟨⟨ha1000, hn1, hn2⟩, hcl⟩ := a_if_i hcl
                have hast : as = (st.take b).reverse ∧ t = st.drop b := by cases hcl; exact ⟨rfl, rfl⟩
                have hsplit : st = as.reverse ++ t := by rw [hast.1, hast.2, List.reverse_reverse, List.take_append_drop]
                have haslen : as.length = b := by rw [hast.1, List.length_reverse, List.length_take]; omega
                have htlen : t.length ≤ 8 := by rw [hast.2, List.length_drop]; omega
                have hvas : ∀ v ∈ as, a_vv v := fun v h9 => hv v (by rw [hsplit]; exact List.mem_append_left _ (List.mem_reverse.mpr h9))
                have hvt : ∀ v ∈ t, a_vv v := fun v h9 => hv v (by rw [hsplit]; exact List.mem_append_right _ h9)
                refine ⟨?_, hvt⟩
                dsimp only at hc2
                rw [Bool.and_eq_true, if_neg (by omega), if_neg (by omega)] at hc2
                cases hq2 : a_mt[a]? with
                | none => rw [hq2] at hc2; cases hc2.2
                | some M2 =>
                  obtain ⟨y, cc, maxL, ret, dep, ci, k1, k2, k3, k4⟩ := M2
                  rw [hq2] at hc2
                  simp only [Bool.and_eq_true, Bool.or_eq_true, decide_eq_true_eq] at hc2
                  obtain ⟨-, ⟨⟨⟨hw, hw1⟩, hdep⟩, hnp, hbL⟩, ha115⟩ := hc2
                  have hmok := a_moks _ (a_mtl_ok hq2 ha115)
                  have hwc := a_cws _ (a_mtl_ok hq2 ha115)
                  simp only [a_mok, Bool.and_eq_true, decide_eq_true_eq] at hmok
                  obtain ⟨⟨⟨hwi, hny⟩, hpl⟩, hL9⟩ := hmok
                  have hMet := a_met (D := D) (g := g) (base := base) (l := l) ih hr1 hq2 hpl (by rw [haslen]; exact hbL) hvas
                  have hG : GoodIn wsL_law (Cond.code y cc maxL ret :: wsL_law) := fun w h9 => (List.mem_cons.mp h9).elim (fun q => by rw [q]; exact a_good _ hwc) (fun q => a_good w q)
                  have hroom : (a_RM dep).frames + 1 ≤ R.frames ∧ 8 + (maxL + 11) + (a_RM dep).locals ≤ R.locals := ⟨by show dep + 1 ≤ _; omega, by show 8 + (maxL + 11) + 40 * dep ≤ _; omega⟩
                  have hstk : (F0 mI pc ls' (st.map (a_cv g.2.2.2))).stack = (as.map (a_cv g.2.2.2)).reverse ++ t.map (a_cv g.2.2.2) := by show st.map _ = _; rw [hsplit, List.map_append, List.map_reverse]
                  rcases hw with hw | hw
                  · exact va_runS (As := as.map (a_cv g.2.2.2)) (rest := t.map (a_cv g.2.2.2)) ⟨hexec, hb, hml, hown, hts⟩ hMet
                      ⟨callB_of (ws' := wsL_law) b hts hG rfl rfl rfl (hts _ (a_wsp hwi)) (hts _ (a_wsp hw)) ⟨hny.1, hny.2, hnp⟩ hroom, hts _ (a_wsp hw1)⟩
                      ⟨a_blind, hPc⟩ rfl (by rw [List.length_map]; exact haslen) hl.1 hstk (lv_room (by rw [a_cat_len]; exact htlen)) hdg ⟨hR.2.2.1, hR.2.2.2⟩
                  · exact va_runSN (As := as.map (a_cv g.2.2.2)) (rest := t.map (a_cv g.2.2.2)) ⟨hexec, hb, hml, hown, hts⟩ hMet
                      ⟨va_cnB (ws' := wsL_law) b hts hG rfl rfl rfl (hSt.2.2.2 _ (a_nwp hw)) (hts _ (a_wsp hwi)) ⟨hny.1, hny.2, hnp⟩ hroom, hts _ (a_wsp hw1), trivial⟩
                      ⟨a_blind, hPc⟩ rfl (by rw [List.length_map]; exact haslen) hl.1 hstk (lv_room (by rw [a_cat_len]; exact htlen)) hdg ⟨hR.2.2.1, hR.2.2.2⟩
              | _ => exact absurd hcl (fun q => by cases (show (none : Option (List aV × List aV)) = some _ from q))
            obtain ⟨hrunM, hvt⟩ := key
            have hgo : ∀ (H1 : Heap) (locs1 : List Loc) (st1 : List aV), st1 = r1.toList ++ t → (∀ v ∈ st1, a_vv v) → a_Dyn base D g m1 H1 → va_S (a_A base) s.heap H1 locs1 → W p l e R s mI args below meth cd H1 locs1 cells slots Q (F0 mI (pc + 3) ls' (st1.map (a_cv g.2.2.2))) := by
              intro H1 locs1 st1 hst1 hv1 hD1 hS1
              subst hst1
              exact ih q (pc + 3) ls (r1.toList ++ t) m1 r m' h p e R s mI args below meth cd cells slots Q M' hM hexec hb hml hown hts hR (a_Sta_m hm1 hSt) H1 locs1 hD1 hS1 ls' hl hv1 (fun H2 locs2 ls2 pc2 ins2 st2 hd hr hD2 hS2 hm2 => hret H2 locs2 ls2 pc2 ins2 st2 hd hr hD2 hS2 (fun c hc => (hm2 c hc).trans (hm1 c hc)))
            rcases a_run_int n hr1 with rfl | ⟨v, rfl⟩
            · exact va_callv (S := Unit) (a := (as.map (a_cv g.2.2.2)).toArray) (post := fun _ => True) (B := fun _ t => a_Pre base D g m1 t) hrunM hS (fun q _ h9 => h9) (fun q h9 => h9) (fun u t2 H1 locs1 ht hvm hw hB hz hk hS1 => hgo H1 locs1 t rfl hvt (ht ▸ hB.1) hS1)
            · refine va_calli (S := Unit) (a := (as.map (a_cv g.2.2.2)).toArray) (post := fun x _ => x = v) (B := fun _ t => a_Pre base D g m1 t) hrunM hS (fun q _ h9 => h9) (fun q h9 => h9) (fun x u t2 H1 locs1 ht hvm hw hB hz hk hS1 => ?_)
              subst hw
              exact hgo H1 locs1 (.inl x :: t) rfl (a_vcons (v := .inl x) trivial hvt) (ht ▸ hB.1) hS1
end
section
/-! runs to an end, and the rows of the abstract machine in that form -/
theorem a_run_more : ∀ (n : Nat) {q pc : Nat} {ls : aL} {st : List aV} {m : aM} {z : Option aV × aM}, a_run n q pc ls st m = some z → a_run (n + 1) q pc ls st m = some z := by
  intro n
  induction n with
  | zero => intro q pc ls st m z h; cases h
  | succ n ih =>
    intro q pc ls st m z h
    unfold a_run at h ⊢
    cases hlk : a_look q pc with
    | none => rw [hlk] at h; cases h
    | some r =>
      obtain ⟨ins, a, b, w⟩ := r
      rw [hlk] at h
      dsimp only at h ⊢
      cases hst : a_step ins a b pc ls st m with
      | some r => 
        rw [hst] at h
        dsimp only at h ⊢
        exact ih h
      | none =>
        rw [hst] at h
        dsimp only at h ⊢
        cases hcl : a_call ins a b st with
        | none =>
          rw [hcl] at h
          exact h
        | some r =>
          rw [hcl] at h
          dsimp only at h ⊢
          cases hr1 : a_run n a 0 (a_ent a r.1) [] m with
          | none => rw [hr1] at h; cases h
          | some z1 =>
            rw [hr1] at h
            rw [ih hr1]
            dsimp only at h ⊢
            exact ih h
theorem a_run_le {n k q pc : Nat} {ls : aL} {st : List aV} {m : aM} {z : Option aV × aM} (h : a_run n q pc ls st m = some z) (hk : n ≤ k) : a_run k q pc ls st m = some z := by
  obtain ⟨j, rfl⟩ := Nat.exists_eq_add_of_le hk
  induction j with
  | zero => exact h
  | succ j ih => exact a_run_more _ (ih (by omega))
/-- it comes to an end, with Q of the answer and of the memory -/
def Rg (q pc : Nat) (ls : aL) (st : List aV) (m : aM) (Q : Option aV → aM → Prop) : Prop := ∃ (n : Nat) (r : Option aV) (m' : aM), a_run n q pc ls st m = some (r, m') ∧ Q r m'
def qI (Q : Int32 → aM → Prop) : Option aV → aM → Prop := fun r m => match r with
  | some (.inl v) => Q v m
  | _ => False
def qV (Q : aM → Prop) : Option aV → aM → Prop := fun r m => match r with
  | none => Q m
  | _ => False
/-- a call of method q with an int (or boolean) answer -/
def Mi (q : Nat) (as : List aV) (m : aM) (Q : Int32 → aM → Prop) : Prop := Rg q 0 (a_ent q as) [] m (qI Q)
def Mv (q : Nat) (as : List aV) (m : aM) (Q : aM → Prop) : Prop := Rg q 0 (a_ent q as) [] m (qV Q)
theorem Mi_mono {q : Nat} {as : List aV} {m : aM} {P Q : Int32 → aM → Prop} (h : Mi q as m P) (k : ∀ v m1, P v m1 → Q v m1) : Mi q as m Q := by
  obtain ⟨n, r, m', h1, h2⟩ := h
  refine ⟨n, r, m', h1, ?_⟩
  unfold qI at h2 ⊢
  split at h2
  · exact k _ _ h2
  · exact h2.elim
theorem Mv_mono {q : Nat} {as : List aV} {m : aM} {P Q : aM → Prop} (h : Mv q as m P) (k : ∀ m1, P m1 → Q m1) : Mv q as m Q := by
  obtain ⟨n, r, m', h1, h2⟩ := h
  refine ⟨n, r, m', h1, ?_⟩
  unfold qV at h2 ⊢
  split at h2
  · exact k _ h2
  · exact h2.elim
theorem Mi_in {q k : Nat} {as : List aV} {m : aM} {Q : Int32 → aM → Prop} (h : a_ml q = k) (h1 : Rg q 0 (as.map some ++ List.replicate (k - as.length) none) [] m (qI Q)) : Mi q as m Q := by
  unfold Mi a_ent
  rw [h]
  exact h1
theorem Mv_in {q k : Nat} {as : List aV} {m : aM} {Q : aM → Prop} (h : a_ml q = k) (h1 : Rg q 0 (as.map some ++ List.replicate (k - as.length) none) [] m (qV Q)) : Mv q as m Q := by
  unfold Mv a_ent
  rw [h]
  exact h1
/-- a truth as a number -/
def bP (p : Prop) [Decidable p] : Int32 := if p then 1 else 0
theorem bP_t {p : Prop} [Decidable p] (h : p) : bP p = 1 := if_pos h
theorem bP_f {p : Prop} [Decidable p] (h : ¬ p) : bP p = 0 := if_neg h
theorem bP_0 {p : Prop} [Decidable p] : bP p = 0 ↔ ¬ p := by
  unfold bP
  split
  · rename_i h; exact ⟨fun q => absurd q (by decide), fun q => absurd h q⟩
  · rename_i h; exact ⟨fun _ => h, fun _ => rfl⟩
theorem bP_iff {p q : Prop} [Decidable p] [Decidable q] (h : p ↔ q) : bP p = bP q := by
  by_cases hp : p
  · rw [bP_t hp, bP_t (h.mp hp)]
  · rw [bP_f hp, bP_f (fun z => hp (h.mpr z))]
theorem bP_01 {p : Prop} [Decidable p] : bP p = 0 ∨ bP p = 1 := by
  by_cases hp : p
  · exact Or.inr (bP_t hp)
  · exact Or.inl (bP_f hp)
def iR (x y : Int32) : Int32 := x - x / y * y
theorem i_mono {c : Prop} [Decidable c] {A A' B B' : Prop} (h : if c then A else B) (h1 : c → A → A') (h2 : ¬ c → B → B') : if c then A' else B' := by
  by_cases hc : c
  · rw [if_pos hc] at h ⊢; exact h1 hc h
  · rw [if_neg hc] at h ⊢; exact h2 hc h
section RUL
variable {q pc a b w : Nat} {ls ls1 : aL} {st t : List aV} {m m1 : aM} {Q : Option aV → aM → Prop} {x y v i : Int32} {c d c' d' k j : Nat} {n : Int} {u u' : aV}
theorem r_s {ins : Instr} {pc1 : Nat} {st1 : List aV} (h : a_look q pc = some (ins, a, b, w)) (hs : a_step ins a b pc ls st m = some (pc1, ls1, st1, m1)) (h1 : Rg q pc1 ls1 st1 m1 Q) : Rg q pc ls st m Q := by
  obtain ⟨n, r, m', g, hQ⟩ := h1
  refine ⟨n + 1, r, m', ?_, hQ⟩
  unfold a_run
  rw [h]
  dsimp only
  rw [hs]
  exact g
theorem r_aload_n {kf : Fin 4} (h : a_look q pc = some (.aload_n kf, a, b, w)) (hl : ls[kf.val]? = some (some (.inr (c, d)))) (h1 : Rg q (pc + 1) ls (.inr (c, d) :: st) m Q) : Rg q pc ls st m Q := r_s h (by simp only [a_step, a_lr, hl]) h1
theorem r_aload (h : a_look q pc = some (.aload k, a, b, w)) (hl : ls[k]? = some (some (.inr (c, d)))) (h1 : Rg q (pc + 2) ls (.inr (c, d) :: st) m Q) : Rg q pc ls st m Q := r_s h (by simp only [a_step, a_lr, hl]) h1
theorem r_iload_n {kf : Fin 4} (h : a_look q pc = some (.iload_n kf, a, b, w)) (hl : ls[kf.val]? = some (some (.inl x))) (h1 : Rg q (pc + 1) ls (.inl x :: st) m Q) : Rg q pc ls st m Q := r_s h (by simp only [a_step, a_l1, hl]) h1
theorem r_iload (h : a_look q pc = some (.iload k, a, b, w)) (hl : ls[k]? = some (some (.inl x))) (h1 : Rg q (pc + 2) ls (.inl x :: st) m Q) : Rg q pc ls st m Q := r_s h (by simp only [a_step, a_l1, hl]) h1
theorem r_istore_n {kf : Fin 4} (h : a_look q pc = some (.istore_n kf, a, b, w)) (hk : kf.val < ls.length) (hl : ls.set kf.val (some (.inl x)) = ls1) (h1 : Rg q (pc + 1) ls1 st m Q) : Rg q pc ls (.inl x :: st) m Q := r_s h (by simp only [a_step, a_p1, a_st, if_pos hk, hl]) h1
theorem r_istore (h : a_look q pc = some (.istore k, a, b, w)) (hk : k < ls.length) (hl : ls.set k (some (.inl x)) = ls1) (h1 : Rg q (pc + 2) ls1 st m Q) : Rg q pc ls (.inl x :: st) m Q := r_s h (by simp only [a_step, a_p1, a_st, if_pos hk, hl]) h1
theorem r_astore_n {kf : Fin 4} (h : a_look q pc = some (.astore_n kf, a, b, w)) (hk : kf.val < ls.length) (hl : ls.set kf.val (some (.inr (c, d))) = ls1) (h1 : Rg q (pc + 1) ls1 st m Q) : Rg q pc ls (.inr (c, d) :: st) m Q := r_s h (by simp only [a_step, a_pr, a_st, if_pos hk, hl]) h1
theorem r_iinc (h : a_look q pc = some (.iinc k n, a, b, w)) (hn : Int32.ofInt n = y) (hl : ls[k]? = some (some (.inl x))) (hk : k < ls.length) (hs : ls.set k (some (.inl (x + y))) = ls1) (h1 : Rg q (pc + 3) ls1 st m Q) : Rg q pc ls st m Q := r_s h (by simp only [a_step, a_l1, hl, a_st, if_pos hk, hn, hs]) h1
theorem r_iconst (h : a_look q pc = some (.iconst n, a, b, w)) (hn : Int32.ofInt n = y) (h1 : Rg q (pc + 1) ls (.inl y :: st) m Q) : Rg q pc ls st m Q := r_s h (by simp only [a_step, hn]) h1
theorem r_bipush (h : a_look q pc = some (.bipush n, a, b, w)) (hn : (Int8.ofInt n).toInt32 = y) (h1 : Rg q (pc + 2) ls (.inl y :: st) m Q) : Rg q pc ls st m Q := r_s h (by simp only [a_step, hn]) h1
theorem r_sipush (h : a_look q pc = some (.sipush n, a, b, w)) (hn : (Int16.ofInt n).toInt32 = y) (h1 : Rg q (pc + 3) ls (.inl y :: st) m Q) : Rg q pc ls st m Q := r_s h (by simp only [a_step, hn]) h1
theorem r_iadd (h : a_look q pc = some (.iadd, a, b, w)) (h1 : Rg q (pc + 1) ls (.inl (x + y) :: st) m Q) : Rg q pc ls (.inl y :: .inl x :: st) m Q := r_s h rfl h1
theorem r_isub (h : a_look q pc = some (.isub, a, b, w)) (h1 : Rg q (pc + 1) ls (.inl (x - y) :: st) m Q) : Rg q pc ls (.inl y :: .inl x :: st) m Q := r_s h rfl h1
theorem r_imul (h : a_look q pc = some (.imul, a, b, w)) (h1 : Rg q (pc + 1) ls (.inl (x * y) :: st) m Q) : Rg q pc ls (.inl y :: .inl x :: st) m Q := r_s h rfl h1
theorem r_iand (h : a_look q pc = some (.iand, a, b, w)) (h1 : Rg q (pc + 1) ls (.inl (x &&& y) :: st) m Q) : Rg q pc ls (.inl y :: .inl x :: st) m Q := r_s h rfl h1
theorem r_ixor (h : a_look q pc = some (.ixor, a, b, w)) (h1 : Rg q (pc + 1) ls (.inl (x ^^^ y) :: st) m Q) : Rg q pc ls (.inl y :: .inl x :: st) m Q := r_s h rfl h1
theorem r_ishr (h : a_look q pc = some (.ishr, a, b, w)) (h1 : Rg q (pc + 1) ls (.inl (x >>> (y &&& 31)) :: st) m Q) : Rg q pc ls (.inl y :: .inl x :: st) m Q := r_s h rfl h1
theorem r_ldc {i : Nat} (h : a_look q pc = some (.ldc i, a, b, w)) (hn : nI a = y) (h1 : Rg q (pc + 2) ls (.inl y :: st) m Q) : Rg q pc ls st m Q := r_s h (by simp only [a_step, hn]) h1
theorem r_idiv (h : a_look q pc = some (.idiv, a, b, w)) (hy : ¬ y = 0) (h1 : Rg q (pc + 1) ls (.inl (x / y) :: st) m Q) : Rg q pc ls (.inl y :: .inl x :: st) m Q := r_s h (by simp only [a_step, a_p2, hy, not_false_eq_true, if_true]) h1
theorem r_irem (h : a_look q pc = some (.irem, a, b, w)) (hy : ¬ y = 0) (h1 : Rg q (pc + 1) ls (.inl (iR x y) :: st) m Q) : Rg q pc ls (.inl y :: .inl x :: st) m Q := r_s h (by simp only [a_step, a_p2, hy, not_false_eq_true, if_true, iR]) h1
theorem r_dup (h : a_look q pc = some (.dup, a, b, w)) (h1 : Rg q (pc + 1) ls (u :: u :: st) m Q) : Rg q pc ls (u :: st) m Q := r_s h rfl h1
theorem r_dup2 (h : a_look q pc = some (.dup2, a, b, w)) (h1 : Rg q (pc + 1) ls (u :: u' :: u :: u' :: st) m Q) : Rg q pc ls (u :: u' :: st) m Q := r_s h rfl h1
theorem r_pop (h : a_look q pc = some (.pop, a, b, w)) (h1 : Rg q (pc + 1) ls st m Q) : Rg q pc ls (u :: st) m Q := r_s h rfl h1
theorem r_goto (h : a_look q pc = some (.goto n, a, b, w)) (h1 : Rg q a ls st m Q) : Rg q pc ls st m Q := r_s h rfl h1
theorem r_if {o : Int} {kk : Jvm.ClassFile.Cond} {p : Prop} [Decidable p] (h : a_look q pc = some (.ifCond kk o, a, b, w)) (hp : a_cc kk x 0 = decide p) (h1 : if p then Rg q a ls st m Q else Rg q (pc + 3) ls st m Q) : Rg q pc ls (.inl x :: st) m Q := by
  by_cases hc : p
  · rw [if_pos hc] at h1
    exact r_s h (by simp only [a_step, a_p1, hp, decide_eq_true hc, if_true]) h1
  · rw [if_neg hc] at h1
    exact r_s h (by simp only [a_step, a_p1, hp, decide_eq_false hc, Bool.false_eq_true, if_false]) h1
theorem r_icmp {o : Int} {kk : Jvm.ClassFile.Cond} {p : Prop} [Decidable p] (h : a_look q pc = some (.if_icmp kk o, a, b, w)) (hp : a_cc kk x y = decide p) (h1 : if p then Rg q a ls st m Q else Rg q (pc + 3) ls st m Q) : Rg q pc ls (.inl y :: .inl x :: st) m Q := by
  by_cases hc : p
  · rw [if_pos hc] at h1
    exact r_s h (by simp only [a_step, a_p2, hp, decide_eq_true hc, if_true]) h1
  · rw [if_neg hc] at h1
    exact r_s h (by simp only [a_step, a_p2, hp, decide_eq_false hc, Bool.false_eq_true, if_false]) h1
/-- not: the jump is the other way -/
theorem r_ifn {o : Int} {kk : Jvm.ClassFile.Cond} {p : Prop} [Decidable p] (h : a_look q pc = some (.ifCond kk o, a, b, w)) (hp : a_cc kk x 0 = decide (¬ p)) (h1 : if p then Rg q (pc + 3) ls st m Q else Rg q a ls st m Q) : Rg q pc ls (.inl x :: st) m Q := by
  refine r_if (p := ¬ p) h hp ?_
  by_cases hc : p
  · rw [if_pos hc] at h1; rw [if_neg (fun z => z hc)]; exact h1
  · rw [if_neg hc] at h1; rw [if_pos hc]; exact h1
theorem r_icmpn {o : Int} {kk : Jvm.ClassFile.Cond} {p : Prop} [Decidable p] (h : a_look q pc = some (.if_icmp kk o, a, b, w)) (hp : a_cc kk x y = decide (¬ p)) (h1 : if p then Rg q (pc + 3) ls st m Q else Rg q a ls st m Q) : Rg q pc ls (.inl y :: .inl x :: st) m Q := by
  refine r_icmp (p := ¬ p) h hp ?_
  by_cases hc : p
  · rw [if_pos hc] at h1; rw [if_neg (fun z => z hc)]; exact h1
  · rw [if_neg hc] at h1; rw [if_pos hc]; exact h1
/-- a branch on a truth -/
theorem r_ifeqP {o : Int} {p : Prop} [Decidable p] (h : a_look q pc = some (.ifCond .eq o, a, b, w)) (h1 : if p then Rg q (pc + 3) ls st m Q else Rg q a ls st m Q) : Rg q pc ls (.inl (bP p) :: st) m Q := r_ifn h (by simp only [a_cc, bP_0]) h1
theorem r_ifneP {o : Int} {p : Prop} [Decidable p] (h : a_look q pc = some (.ifCond .ne o, a, b, w)) (h1 : if p then Rg q a ls st m Q else Rg q (pc + 3) ls st m Q) : Rg q pc ls (.inl (bP p) :: st) m Q := r_if h (by simp only [a_cc, bP_0, Decidable.not_not]) h1
theorem r_tsw {dflt lo hi : Int} {offs : Array Int} (h : a_look q pc = some (.tableswitch dflt lo hi offs, a, b, w)) (hx : ((pc : Int) + dflt ≥ 0 ∧ ∀ o ∈ offs.toList, (pc : Int) + o ≥ 0) ∧ (x.toInt < lo ∨ hi < x.toInt ∨ (x.toInt - lo).toNat < offs.size)) (h1 : Rg q (a_ts pc dflt lo hi offs x) ls st m Q) : Rg q pc ls (.inl x :: st) m Q := r_s h (by simp only [a_step, a_p1, if_pos hx]) h1
theorem r_lsw {dflt : Int} {ps : Array (Int × Int)} (h : a_look q pc = some (.lookupswitch dflt ps, a, b, w)) (hx : (pc : Int) + Op.lookupswitch.offset ps.toList dflt x.toInt ≥ 0) (h1 : Rg q (a_lk pc dflt ps x) ls st m Q) : Rg q pc ls (.inl x :: st) m Q := r_s h (by simp only [a_step, a_p1, if_pos hx]) h1
theorem r_getr (h : a_look q pc = some (.getfield j, a, b, w)) (hk : a_kd c = (0, a)) (hf : a_fr c d b = some (c', d')) (h1 : Rg q (pc + 3) ls (.inr (c', d') :: st) m Q) : Rg q pc ls (.inr (c, d) :: st) m Q := r_s h (by simp only [a_step, a_pr, if_pos hk, hf]) h1
theorem r_geti (h : a_look q pc = some (.getfield j, a, b, w)) (hk : a_kd c = (0, a)) (hf : a_fr c d b = none) (h1 : Rg q (pc + 3) ls (.inl (m c d b) :: st) m Q) : Rg q pc ls (.inr (c, d) :: st) m Q := r_s h (by simp only [a_step, a_pr, if_pos hk, hf]) h1
theorem r_put (h : a_look q pc = some (.putfield j, a, b, w)) (hk : a_kd c = (0, a) ∧ a_fr c d b = none) (hb : a_bf a b = true → x = 0 ∨ x = 1) (h1 : Rg q (pc + 3) ls st (a_up m c d b x) Q) : Rg q pc ls (.inl x :: .inr (c, d) :: st) m Q := r_s h (by simp only [a_step, a_p1r, if_pos (⟨hk, hb⟩ : (a_kd c = (0, a) ∧ a_fr c d b = none) ∧ (a_bf a b = true → x = 0 ∨ x = 1))]) h1
theorem r_gets (h : a_look q pc = some (.getstatic j, a, b, w)) (h1 : Rg q (pc + 3) ls (.inr (a, 0) :: st) m Q) : Rg q pc ls st m Q := r_s h rfl h1
theorem r_iald {N : Nat} (h : a_look q pc = some (.iaload, a, b, w)) (hk : (a_kd c).1 = 1 ∨ (a_kd c).1 = 4 ∨ (a_kd c).1 = 5) (hN : a_ln m c = N) (hi : a_in i N = true) (hj : i.toNatClampNeg = j) (h1 : Rg q (pc + 1) ls (.inl (m c d j) :: st) m Q) : Rg q pc ls (.inl i :: .inr (c, d) :: st) m Q := r_s h (by simp only [a_step, a_p1r, if_pos (⟨hk, hN ▸ hi⟩ : ((a_kd c).1 = 1 ∨ (a_kd c).1 = 4 ∨ (a_kd c).1 = 5) ∧ a_in i (a_ln m c) = true), hj]) h1
theorem r_bald {N : Nat} (h : a_look q pc = some (.baload, a, b, w)) (hk : (a_kd c).1 = 2) (hN : a_ln m c = N) (hi : a_in i N = true) (hj : i.toNatClampNeg = j) (h1 : Rg q (pc + 1) ls (.inl (m c d j) :: st) m Q) : Rg q pc ls (.inl i :: .inr (c, d) :: st) m Q := r_s h (by simp only [a_step, a_p1r, if_pos (⟨hk, hN ▸ hi⟩ : (a_kd c).1 = 2 ∧ a_in i (a_ln m c) = true), hj]) h1
theorem r_aald {N : Nat} (h : a_look q pc = some (.aaload, a, b, w)) (hk : (a_kd c).1 = 3) (hN : a_ln m c = N) (hi : a_in i N = true) (hj : i.toNatClampNeg = j) (h1 : Rg q (pc + 1) ls (.inr (0, a_el c j) :: st) m Q) : Rg q pc ls (.inl i :: .inr (c, d) :: st) m Q := r_s h (by simp only [a_step, a_p1r, if_pos (⟨hk, hN ▸ hi⟩ : (a_kd c).1 = 3 ∧ a_in i (a_ln m c) = true), hj]) h1
theorem r_iast {N : Nat} (h : a_look q pc = some (.iastore, a, b, w)) (hk : (a_kd c).1 = 1) (hN : a_ln m c = N) (hi : a_in i N = true) (hj : i.toNatClampNeg = j) (h1 : Rg q (pc + 1) ls st (a_up m c d j x) Q) : Rg q pc ls (.inl x :: .inl i :: .inr (c, d) :: st) m Q := r_s h (by simp only [a_step, a_p2r, if_pos (⟨hk, hN ▸ hi⟩ : (a_kd c).1 = 1 ∧ a_in i (a_ln m c) = true), hj]) h1
theorem r_bast {N : Nat} (h : a_look q pc = some (.bastore, a, b, w)) (hk : (a_kd c).1 = 2) (hN : a_ln m c = N) (hi : a_in i N = true) (hx : x = 0 ∨ x = 1) (hj : i.toNatClampNeg = j) (h1 : Rg q (pc + 1) ls st (a_up m c d j x) Q) : Rg q pc ls (.inl x :: .inl i :: .inr (c, d) :: st) m Q := r_s h (by simp only [a_step, a_p2r, if_pos (⟨⟨hk, hN ▸ hi⟩, hx⟩ : ((a_kd c).1 = 2 ∧ a_in i (a_ln m c) = true) ∧ (x = 0 ∨ x = 1)), hj]) h1
theorem r_alen {N : Nat} (h : a_look q pc = some (.arraylength, a, b, w)) (hk : (a_kd c).1 = 1 ∨ (a_kd c).1 = 5) (hN : a_ln m c = N) (h1 : Rg q (pc + 1) ls (.inl (nI N) :: st) m Q) : Rg q pc ls (.inr (c, d) :: st) m Q := r_s h (by simp only [a_step, a_pr, if_pos hk, hN]) h1
theorem r_min {i : Nat} (h : a_look q pc = some (.invokestatic i, 1000, b, w)) (hl : st.length ≤ 8) (h1 : Rg q (pc + 3) ls (.inl (if y < x then y else x) :: st) m Q) : Rg q pc ls (.inl y :: .inl x :: st) m Q := r_s h (by simp only [a_step, a_p2, if_true, if_pos hl]) h1
theorem r_cpy {i N sp dp : Nat} {c0 b0 c1 b1 : Nat} (h : a_look q pc = some (.invokestatic i, 1001, b, w)) (h0 : (a_kd c0).1 = 1 ∧ (a_kd c1).1 = 1) (hN : N < 2 ^ 31 ∧ N ≤ (a_kd c0).2 ∧ N ≤ (a_kd c1).2) (h1 : Rg q (pc + 3) ls [] (fun c b j => if c = c1 ∧ b = b1 ∧ j < N then m c0 b0 j else m c b j) Q) : Rg q pc ls [.inl (nI N), .inl 0, .inr (c1, b1), .inl 0, .inr (c0, b0)] m Q := by
  have hz : (0 : Int32).toNatClampNeg = 0 := by decide +kernel
  refine r_s h ?_ h1
  simp only [a_step, show ¬ (1001 = 1000) by decide, if_false, if_true, a_pcp]
  rw [if_pos ⟨h0, ⟨by decide +kernel, by decide +kernel, nI_pos hN.1⟩, by rw [hz, nI_clamp hN.1, Nat.zero_add]; exact hN.2.1, by rw [hz, nI_clamp hN.1, Nat.zero_add]; exact hN.2.2⟩]
  congr 4
  funext c b j
  rw [hz, nI_clamp hN.1]
  by_cases hc : c = c1 ∧ b = b1
  · rw [if_pos hc]
    obtain ⟨rfl, rfl⟩ := hc
    simp [va_cpy]
  · rw [if_neg hc, if_neg (fun z => hc ⟨z.1, z.2.1⟩)]
theorem r_cl {ins : Instr} {as : List aV} {n r m1} (h : a_look q pc = some (ins, a, k, w)) (hs : a_step ins a k pc ls st m = none) (hc : a_call ins a k st = some (as, t)) (g1 : a_run n a 0 (a_ent a as) [] m = some (r, m1)) (h1 : Rg q (pc + 3) ls (r.toList ++ t) m1 Q) : Rg q pc ls st m Q := by
  obtain ⟨n2, r2, m2, g2, hQ⟩ := h1
  refine ⟨n + n2 + 1, r2, m2, ?_, hQ⟩
  unfold a_run
  rw [h]
  dsimp only
  rw [hs, hc]
  dsimp only
  rw [a_run_le g1 (by omega)]
  dsimp only
  exact a_run_le g2 (by omega)
theorem r_cv {i : Nat} {as : List aV} (h : a_look q pc = some (.invokevirtual i, a, k, w)) (hc : a_call (.invokevirtual i) a k st = some (as, t)) (h1 : Mi a as m (fun v m1 => Rg q (pc + 3) ls (.inl v :: t) m1 Q)) : Rg q pc ls st m Q := by
  obtain ⟨n, r, m1, g1, h2⟩ := h1
  unfold qI at h2
  split at h2
  · exact r_cl h rfl hc g1 h2
  · exact h2.elim
theorem r_cvv {i : Nat} {as : List aV} (h : a_look q pc = some (.invokevirtual i, a, k, w)) (hc : a_call (.invokevirtual i) a k st = some (as, t)) (h1 : Mv a as m (fun m1 => Rg q (pc + 3) ls t m1 Q)) : Rg q pc ls st m Q := by
  obtain ⟨n, r, m1, g1, h2⟩ := h1
  unfold qV at h2
  split at h2
  · exact r_cl h rfl hc g1 h2
  · exact h2.elim
theorem a_step_st {i a b pc : Nat} (ha : a < 1000) : a_step (.invokestatic i) a b pc ls st m = none := by
  simp only [a_step]
  rw [if_neg (by omega), if_neg (by omega)]
theorem r_cs {i : Nat} {as : List aV} (h : a_look q pc = some (.invokestatic i, a, k, w)) (ha : a < 1000) (hc : a_call (.invokestatic i) a k st = some (as, t)) (h1 : Mi a as m (fun v m1 => Rg q (pc + 3) ls (.inl v :: t) m1 Q)) : Rg q pc ls st m Q := by
  obtain ⟨n, r, m1, g1, h2⟩ := h1
  unfold qI at h2
  split at h2
  · exact r_cl h (a_step_st ha) hc g1 h2
  · exact h2.elim
theorem r_csv {i : Nat} {as : List aV} (h : a_look q pc = some (.invokestatic i, a, k, w)) (ha : a < 1000) (hc : a_call (.invokestatic i) a k st = some (as, t)) (h1 : Mv a as m (fun m1 => Rg q (pc + 3) ls t m1 Q)) : Rg q pc ls st m Q := by
  obtain ⟨n, r, m1, g1, h2⟩ := h1
  unfold qV at h2
  split at h2
  · exact r_cl h (a_step_st ha) hc g1 h2
  · exact h2.elim
theorem r_end {ins : Instr} {r : Option aV} (h : a_look q pc = some (ins, a, b, w)) (hs : a_step ins a b pc ls st m = none) (hc : a_call ins a b st = none) (hr : a_ret (a_rt q) ins st = some r) (hQ : Q r m) : Rg q pc ls st m Q := by
  refine ⟨1, r, m, ?_, hQ⟩
  unfold a_run
  rw [h]
  dsimp only
  rw [hs, hc]
  dsimp only
  rw [hr]
theorem r_iret {Q : Int32 → aM → Prop} (h : a_look q pc = some (.ireturn, a, b, w)) (hr : a_rt q = some .int) (hQ : Q v m) : Rg q pc ls [.inl v] m (qI Q) := r_end (r := some (.inl v)) h rfl rfl (by rw [hr]; rfl) hQ
theorem r_zret {Q : Int32 → aM → Prop} (h : a_look q pc = some (.ireturn, a, b, w)) (hr : a_rt q = some .boolean) (h01 : v = 0 ∨ v = 1) (hQ : Q v m) : Rg q pc ls [.inl v] m (qI Q) := r_end (r := some (.inl v)) h rfl rfl (by rw [hr]; simp only [a_ret, if_pos h01]) hQ
theorem r_vret {Q : aM → Prop} (h : a_look q pc = some (.return_, a, b, w)) (hr : a_rt q = none) (hQ : Q m) : Rg q pc ls [] m (qV Q) := r_end (r := none) h rfl rfl (by rw [hr]; rfl) hQ
end RUL
end
