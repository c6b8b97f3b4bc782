/-! AN ABSTRACT MACHINE over numbers: cells by kind c and block b, slots j; a pure function; proved sound against the machine's rows, once, in part 04. -/
abbrev aV : Type := Int32 ⊕ (Nat × Nat)
abbrev aM : Type := Nat → Nat → Nat → Int32
abbrev aL : Type := List (Option aV)
abbrev aO : Type := Option (Option aV × aM)
/-- a row of code: the instruction, two resolved numbers, the place of its word -/
abbrev aR : Type := Instr × Nat × Nat × Nat
abbrev aS : Type := Nat × aL × List aV × aM
def a_up (m : aM) (c b j : Nat) (v : Int32) : aM := fun c' b' j' => if c' = c ∧ b' = b ∧ j' = j then v else m c' b' j'
/-- what a cell is: an object of a class (0), a row of ints (1), of booleans (2), of references (3), a static row (4), the script (5) -/
def a_kds : List (Nat × Nat) := [(0, 4), (0, 5), (0, 2), (0, 1), (1, 8), (1, 8), (1, 8), (1, 8), (1, 8), (1, 8), (1, 8), (1, 8), (1, 8), (1, 8), (1, 8), (1, 8), (1, 16), (1, 16), (1, 16), (1, 16), (1, 16), (1, 16), (1, 16), (1, 16), (1, 16), (1, 16), (1, 3), (0, 6), (0, 3), (3, 6), (3, 2), (2, 2), (0, 0), (1, 80), (1, 8), (1, 40), (1, 56), (1, 64), (1, 48), (1, 48), (9, 0), (4, 5), (4, 4), (4, 3), (4, 3), (4, 3), (5, 0)]
def a_kd (c : Nat) : Nat × Nat := a_kds.getD c (9, 0)
/-- the references that an object's fields hold for good: the kind, the block (none: the object's own) -/
def a_frs : List (List (Option (Nat × Option Nat))) := [
  [some (1, none), some (2, none), some (3, none), some (26, none), none, none],
  [some (4, none), some (5, none), some (6, none), some (7, none), some (8, none), none],
  [some (9, none), some (10, none), some (11, none), some (12, none), some (13, none), some (14, none), some (15, none), none],
  [some (16, none), some (17, none), some (18, none), some (19, none), some (20, none), some (21, none), some (22, none), some (23, none), some (24, none), some (25, none), none],
  [], [], [], [], [], [], [], [], [], [], [], [], [], [], [], [], [], [], [], [], [], [], [],
  [some (0, some 0), some (0, some 1), some (28, some 0), some (30, some 0), some (31, some 0), some (32, some 0)],
  [some (29, some 0), none, none],
  [], [], [],
  [some (33, some 0), none, none, none, none, none, none, none]]
def a_ft (c k : Nat) : Option (Nat × Option Nat) := (a_frs.getD c []).getD k none
def a_fr (c b k : Nat) : Option (Nat × Nat) := match a_ft c k with
  | none => none
  | some (c', none) => some (c', b)
  | some (c', some d) => some (c', d)
def a_nf (c : Nat) : Nat := (a_frs.getD c []).length
/-- the one boolean field -/
def a_bf (ci k : Nat) : Bool := ci == 7 && k == 6
/-- the block of the state that a row of states holds at j -/
def a_el (c j : Nat) : Nat := if c = 29 then 2 + j else 8 + j
def a_sn (c : Nat) : String := if c = 41 then "RADII" else if c = 42 then "REACHES" else if c = 43 then "FIRST_VALUES" else if c = 44 then "LEAST_VALUES" else "GREATEST_VALUES"
/-- how long a row is -/
def a_ln (m : aM) (c : Nat) : Nat := if c = 46 then (m 47 0 0).toNatClampNeg else (a_kd c).2
def a_in (i : Int32) (n : Nat) : Bool := decide (¬ i < 0) && decide (i.toNatClampNeg < n)
theorem a_in_vp {i : Int32} {n : Nat} (h : a_in i n = true) : vp_in i n := by
  simp only [a_in, Bool.and_eq_true, decide_eq_true_eq] at h
  exact fun q => q.elim h.1 (fun q => absurd h.2 (Nat.not_lt.mpr q))
/-! ways to take a stack or a place apart -/
def a_l1 (ls : aL) (k : Nat) (f : Int32 → Option aS) : Option aS := match ls[k]? with
  | some (some (.inl x)) => f x
  | _ => none
def a_lr (ls : aL) (k : Nat) (f : Nat → Nat → Option aS) : Option aS := match ls[k]? with
  | some (some (.inr (c, b))) => f c b
  | _ => none
def a_p0 (st : List aV) (f : aV → List aV → Option aS) : Option aS := match st with
  | v :: t => f v t
  | _ => none
def a_p1 (st : List aV) (f : Int32 → List aV → Option aS) : Option aS := match st with
  | .inl x :: t => f x t
  | _ => none
def a_pr (st : List aV) (f : Nat → Nat → List aV → Option aS) : Option aS := match st with
  | .inr (c, b) :: t => f c b t
  | _ => none
def a_p2 (st : List aV) (f : Int32 → Int32 → List aV → Option aS) : Option aS := match st with
  | .inl y :: .inl x :: t => f x y t
  | _ => none
def a_pv (st : List aV) (f : aV → aV → List aV → Option aS) : Option aS := match st with
  | v :: u :: t => f v u t
  | _ => none
def a_p1r (st : List aV) (f : Int32 → Nat → Nat → List aV → Option aS) : Option aS := match st with
  | .inl x :: .inr (c, b) :: t => f x c b t
  | _ => none
def a_p2r (st : List aV) (f : Int32 → Int32 → Nat → Nat → List aV → Option aS) : Option aS := match st with
  | .inl x :: .inl i :: .inr (c, b) :: t => f x i c b t
  | _ => none
def a_pcp (st : List aV) (f : Int32 → Int32 → Nat → Nat → Int32 → Nat → Nat → Option aS) : Option aS := match st with
  | [.inl n, .inl dp, .inr (c1, b1), .inl sp, .inr (c0, b0)] => f n dp c1 b1 sp c0 b0
  | _ => none
theorem a_l1_i {ls : aL} {k : Nat} {f : Int32 → Option aS} {z : aS} (h : a_l1 ls k f = some z) : ∃ x, ls[k]? = some (some (.inl x)) ∧ f x = some z := by
  unfold a_l1 at h
  split at h
  · rename_i e; exact ⟨_, e, h⟩
  · cases h
theorem a_lr_i {ls : aL} {k : Nat} {f : Nat → Nat → Option aS} {z : aS} (h : a_lr ls k f = some z) : ∃ c b, ls[k]? = some (some (.inr (c, b))) ∧ f c b = some z := by
  unfold a_lr at h
  split at h
  · rename_i e; exact ⟨_, _, e, h⟩
  · cases h
theorem a_p0_i {st : List aV} {f : aV → List aV → Option aS} {z : aS} (h : a_p0 st f = some z) : ∃ v t, st = v :: t ∧ f v t = some z := by
  unfold a_p0 at h
  split at h
  · exact ⟨_, _, rfl, h⟩
  · cases h
theorem a_p1_i {st : List aV} {f : Int32 → List aV → Option aS} {z : aS} (h : a_p1 st f = some z) : ∃ x t, st = .inl x :: t ∧ f x t = some z := by
  unfold a_p1 at h
  split at h
  · exact ⟨_, _, rfl, h⟩
  · cases h
theorem a_pr_i {st : List aV} {f : Nat → Nat → List aV → Option aS} {z : aS} (h : a_pr st f = some z) : ∃ c b t, st = .inr (c, b) :: t ∧ f c b t = some z := by
  unfold a_pr at h
  split at h
  · exact ⟨_, _, _, rfl, h⟩
  · cases h
theorem a_p2_i {st : List aV} {f : Int32 → Int32 → List aV → Option aS} {z : aS} (h : a_p2 st f = some z) : ∃ x y t, st = .inl y :: .inl x :: t ∧ f x y t = some z := by
  unfold a_p2 at h
  split at h
  · exact ⟨_, _, _, rfl, h⟩
  · cases h
theorem a_pv_i {st : List aV} {f : aV → aV → List aV → Option aS} {z : aS} (h : a_pv st f = some z) : ∃ v u t, st = v :: u :: t ∧ f v u t = some z := by
  unfold a_pv at h
  split at h
  · exact ⟨_, _, _, rfl, h⟩
  · cases h
theorem a_p1r_i {st : List aV} {f : Int32 → Nat → Nat → List aV → Option aS} {z : aS} (h : a_p1r st f = some z) : ∃ x c b t, st = .inl x :: .inr (c, b) :: t ∧ f x c b t = some z := by
  unfold a_p1r at h
  split at h
  · exact ⟨_, _, _, _, rfl, h⟩
  · cases h
theorem a_p2r_i {st : List aV} {f : Int32 → Int32 → Nat → Nat → List aV → Option aS} {z : aS} (h : a_p2r st f = some z) : ∃ x i c b t, st = .inl x :: .inl i :: .inr (c, b) :: t ∧ f x i c b t = some z := by
  unfold a_p2r at h
  split at h
  · exact ⟨_, _, _, _, _, rfl, h⟩
  · cases h
theorem a_pcp_i {st : List aV} {f : Int32 → Int32 → Nat → Nat → Int32 → Nat → Nat → Option aS} {z : aS} (h : a_pcp st f = some z) : ∃ n dp c1 b1 sp c0 b0, st = [.inl n, .inl dp, .inr (c1, b1), .inl sp, .inr (c0, b0)] ∧ f n dp c1 b1 sp c0 b0 = some z := by
  unfold a_pcp at h
  split at h
  · exact ⟨_, _, _, _, _, _, _, rfl, h⟩
  · cases h
theorem a_if_i {α : Type} {p : Prop} [Decidable p] {x : Option α} {z : α} (h : (if p then x else none) = some z) : p ∧ x = some z := by
  split at h
  · exact ⟨‹_›, h⟩
  · cases h
/-- a comparison of two numbers -/
def a_cc (k : Jvm.ClassFile.Cond) (x y : Int32) : Bool := match k with
  | .eq => decide (x = y)
  | .ne => decide (¬ x = y)
  | .lt => decide (x < y)
  | .ge => decide (y ≤ x)
  | .gt => decide (y < x)
  | .le => decide (x ≤ y)
def a_st (ls : aL) (k : Nat) (v : aV) (f : aL → Option aS) : Option aS := if k < ls.length then f (ls.set k (some v)) else none
/-- where a switch goes -/
def a_tg (pc : Nat) (off : Int) : Nat := ((pc : Int) + off).toNat
def a_ts (pc : Nat) (dflt lo hi : Int) (offs : Array Int) (x : Int32) : Nat := if x.toInt < lo ∨ hi < x.toInt then a_tg pc dflt else match offs[(x.toInt - lo).toNat]? with
  | some off => a_tg pc off
  | none => 0
def a_lk (pc : Nat) (dflt : Int) (ps : Array (Int × Int)) (x : Int32) : Nat := a_tg pc (Op.lookupswitch.offset ps.toList dflt x.toInt)
/-- one step that is no call of a method of ours and no end -/
def a_step (ins : Instr) (a b : Nat) (pc : Nat) (ls : aL) (st : List aV) (m : aM) : Option aS :=
  match ins with
  | .aload_n k => a_lr ls k fun c d => some (pc + 1, ls, .inr (c, d) :: st, m)
  | .aload k => a_lr ls k fun c d => some (pc + 2, ls, .inr (c, d) :: st, m)
  | .iload_n k => a_l1 ls k fun x => some (pc + 1, ls, .inl x :: st, m)
  | .iload k => a_l1 ls k fun x => some (pc + 2, ls, .inl x :: st, m)
  | .istore_n k => a_p1 st fun x t => a_st ls k (.inl x) fun ls1 => some (pc + 1, ls1, t, m)
  | .istore k => a_p1 st fun x t => a_st ls k (.inl x) fun ls1 => some (pc + 2, ls1, t, m)
  | .astore_n k => a_pr st fun c d t => a_st ls k (.inr (c, d)) fun ls1 => some (pc + 1, ls1, t, m)
  | .iinc k n => a_l1 ls k fun x => a_st ls k (.inl (x + Int32.ofInt n)) fun ls1 => some (pc + 3, ls1, st, m)
  | .iconst n => some (pc + 1, ls, .inl (Int32.ofInt n) :: st, m)
  | .bipush n => some (pc + 2, ls, .inl (Int8.ofInt n).toInt32 :: st, m)
  | .sipush n => some (pc + 3, ls, .inl (Int16.ofInt n).toInt32 :: st, m)
  | .iadd => a_p2 st fun x y t => some (pc + 1, ls, .inl (x + y) :: t, m)
  | .isub => a_p2 st fun x y t => some (pc + 1, ls, .inl (x - y) :: t, m)
  | .imul => a_p2 st fun x y t => some (pc + 1, ls, .inl (x * y) :: t, m)
  | .iand => a_p2 st fun x y t => some (pc + 1, ls, .inl (x &&& y) :: t, m)
  | .ixor => a_p2 st fun x y t => some (pc + 1, ls, .inl (x ^^^ y) :: t, m)
  | .ishr => a_p2 st fun x y t => some (pc + 1, ls, .inl (x >>> (y &&& 31)) :: t, m)
  | .ldc _ => some (pc + 2, ls, .inl (nI a) :: st, m)
  | .idiv => a_p2 st fun x y t => if ¬ y = 0 then some (pc + 1, ls, .inl (x / y) :: t, m) else none
  | .irem => a_p2 st fun x y t => if ¬ y = 0 then some (pc + 1, ls, .inl (x - x / y * y) :: t, m) else none
  | .dup => a_p0 st fun v t => some (pc + 1, ls, v :: v :: t, m)
  | .dup2 => a_pv st fun v u t => some (pc + 1, ls, v :: u :: v :: u :: t, m)
  | .pop => a_p0 st fun _ t => some (pc + 1, ls, t, m)
  | .goto _ => some (a, ls, st, m)
  | .ifCond k _ => a_p1 st fun x t => some (if a_cc k x 0 = true then a else pc + 3, ls, t, m)
  | .if_icmp k _ => a_p2 st fun x y t => some (if a_cc k x y = true then a else pc + 3, ls, t, m)
  | .tableswitch dflt lo hi offs => a_p1 st fun x t => if ((pc : Int) + dflt ≥ 0 ∧ ∀ o ∈ offs.toList, (pc : Int) + o ≥ 0) ∧ (x.toInt < lo ∨ hi < x.toInt ∨ (x.toInt - lo).toNat < offs.size) then some (a_ts pc dflt lo hi offs x, ls, t, m) else none
  | .lookupswitch dflt ps => a_p1 st fun x t => if (pc : Int) + Op.lookupswitch.offset ps.toList dflt x.toInt ≥ 0 then some (a_lk pc dflt ps x, ls, t, m) else none
  | .getfield _ => a_pr st fun c d t => if a_kd c = (0, a) then (match a_fr c d b with
      | some r => some (pc + 3, ls, .inr r :: t, m)
      | none => some (pc + 3, ls, .inl (m c d b) :: t, m)) else none
  | .putfield _ => a_p1r st fun x c d t => if (a_kd c = (0, a) ∧ a_fr c d b = none) ∧ (a_bf a b = true → x = 0 ∨ x = 1) then some (pc + 3, ls, t, a_up m c d b x) else none
  | .getstatic _ => some (pc + 3, ls, .inr (a, 0) :: st, m)
  | .iaload => a_p1r st fun i c d t => if ((a_kd c).1 = 1 ∨ (a_kd c).1 = 4 ∨ (a_kd c).1 = 5) ∧ a_in i (a_ln m c) = true then some (pc + 1, ls, .inl (m c d i.toNatClampNeg) :: t, m) else none
  | .baload => a_p1r st fun i c d t => if (a_kd c).1 = 2 ∧ a_in i (a_ln m c) = true then some (pc + 1, ls, .inl (m c d i.toNatClampNeg) :: t, m) else none
  | .aaload => a_p1r st fun i c _ t => if (a_kd c).1 = 3 ∧ a_in i (a_ln m c) = true then some (pc + 1, ls, .inr (0, a_el c i.toNatClampNeg) :: t, m) else none
  | .iastore => a_p2r st fun x i c d t => if (a_kd c).1 = 1 ∧ a_in i (a_ln m c) = true then some (pc + 1, ls, t, a_up m c d i.toNatClampNeg x) else none
  | .bastore => a_p2r st fun x i c d t => if ((a_kd c).1 = 2 ∧ a_in i (a_ln m c) = true) ∧ (x = 0 ∨ x = 1) then some (pc + 1, ls, t, a_up m c d i.toNatClampNeg x) else none
  | .arraylength => a_pr st fun c _ t => if (a_kd c).1 = 1 ∨ (a_kd c).1 = 5 then some (pc + 1, ls, .inl (nI (a_ln m c)) :: t, m) else none
  | .invokestatic _ => if a = 1000 then a_p2 st fun x y t => (if t.length ≤ 8 then some (pc + 3, ls, .inl (if y < x then y else x) :: t, m) else none)
      else if a = 1001 then a_pcp st fun n dp c1 b1 sp c0 b0 => (if ((a_kd c0).1 = 1 ∧ (a_kd c1).1 = 1) ∧ (¬ sp < 0 ∧ ¬ dp < 0 ∧ ¬ n < 0) ∧ sp.toNatClampNeg + n.toNatClampNeg ≤ (a_kd c0).2 ∧ dp.toNatClampNeg + n.toNatClampNeg ≤ (a_kd c1).2 then
        some (pc + 3, ls, [], fun c b j => if c = c1 ∧ b = b1 then va_cpy (m c0 b0) (m c1 b1) sp.toNatClampNeg dp.toNatClampNeg n.toNatClampNeg j else m c b j) else none)
      else none
  | _ => none
/-- the end of a method -/
def a_ret (ret : Option FieldType) (ins : Instr) (st : List aV) : Option (Option aV) := match ins, ret, st with
  | .ireturn, some .int, [.inl v] => some (some (.inl v))
  | .ireturn, some .boolean, [.inl v] => if v = 0 ∨ v = 1 then some (some (.inl v)) else none
  | .return_, none, [] => some none
  | _, _, _ => none
/-- a method: name, bytes, places, answer, how deep it calls, its receiver's class, the places of its words -/
abbrev aMt : Type := MethodName × ByteArray × Nat × Option FieldType × Nat × Nat × Nat × Nat × Nat × Nat
