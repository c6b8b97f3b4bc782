/-! runs to an end, and the rows of the abstract machine in that form -/
theorem a_run_more : ∀ (n : Nat) {q pc : Nat} {ls : aL} {st : List aV} {m : aM} {z : Option aV × aM}, a_run n q pc ls st m = some z → a_run (n + 1) q pc ls st m = some z := by
  intro n
  induction n with
  | zero => intro q pc ls st m z h; cases h
  | succ n ih =>
    intro q pc ls st m z h
    unfold a_run at h ⊢
    cases hlk : a_look q pc with
    | none => rw [hlk] at h; cases h
    | some r =>
      obtain ⟨ins, a, b, w⟩ := r
      rw [hlk] at h
      dsimp only at h ⊢
      cases hst : a_step ins a b pc ls st m with
      | some r => 
        rw [hst] at h
        dsimp only at h ⊢
        exact ih h
      | none =>
        rw [hst] at h
        dsimp only at h ⊢
        cases hcl : a_call ins a b st with
        | none =>
          rw [hcl] at h
          exact h
        | some r =>
          rw [hcl] at h
          dsimp only at h ⊢
          cases hr1 : a_run n a 0 (a_ent a r.1) [] m with
          | none => rw [hr1] at h; cases h
          | some z1 =>
            rw [hr1] at h
            rw [ih hr1]
            dsimp only at h ⊢
            exact ih h
theorem a_run_le {n k q pc : Nat} {ls : aL} {st : List aV} {m : aM} {z : Option aV × aM} (h : a_run n q pc ls st m = some z) (hk : n ≤ k) : a_run k q pc ls st m = some z := by
  obtain ⟨j, rfl⟩ := Nat.exists_eq_add_of_le hk
  induction j with
  | zero => exact h
  | succ j ih => exact a_run_more _ (ih (by omega))
/-- it comes to an end, with Q of the answer and of the memory -/
def Rg (q pc : Nat) (ls : aL) (st : List aV) (m : aM) (Q : Option aV → aM → Prop) : Prop := ∃ (n : Nat) (r : Option aV) (m' : aM), a_run n q pc ls st m = some (r, m') ∧ Q r m'
def qI (Q : Int32 → aM → Prop) : Option aV → aM → Prop := fun r m => match r with
  | some (.inl v) => Q v m
  | _ => False
def qV (Q : aM → Prop) : Option aV → aM → Prop := fun r m => match r with
  | none => Q m
  | _ => False
/-- a call of method q with an int (or boolean) answer -/
def Mi (q : Nat) (as : List aV) (m : aM) (Q : Int32 → aM → Prop) : Prop := Rg q 0 (a_ent q as) [] m (qI Q)
def Mv (q : Nat) (as : List aV) (m : aM) (Q : aM → Prop) : Prop := Rg q 0 (a_ent q as) [] m (qV Q)
theorem Mi_mono {q : Nat} {as : List aV} {m : aM} {P Q : Int32 → aM → Prop} (h : Mi q as m P) (k : ∀ v m1, P v m1 → Q v m1) : Mi q as m Q := by
  obtain ⟨n, r, m', h1, h2⟩ := h
  refine ⟨n, r, m', h1, ?_⟩
  unfold qI at h2 ⊢
  split at h2
  · exact k _ _ h2
  · exact h2.elim
theorem Mv_mono {q : Nat} {as : List aV} {m : aM} {P Q : aM → Prop} (h : Mv q as m P) (k : ∀ m1, P m1 → Q m1) : Mv q as m Q := by
  obtain ⟨n, r, m', h1, h2⟩ := h
  refine ⟨n, r, m', h1, ?_⟩
  unfold qV at h2 ⊢
  split at h2
  · exact k _ h2
  · exact h2.elim
theorem Mi_in {q k : Nat} {as : List aV} {m : aM} {Q : Int32 → aM → Prop} (h : a_ml q = k) (h1 : Rg q 0 (as.map some ++ List.replicate (k - as.length) none) [] m (qI Q)) : Mi q as m Q := by
  unfold Mi a_ent
  rw [h]
  exact h1
theorem Mv_in {q k : Nat} {as : List aV} {m : aM} {Q : aM → Prop} (h : a_ml q = k) (h1 : Rg q 0 (as.map some ++ List.replicate (k - as.length) none) [] m (qV Q)) : Mv q as m Q := by
  unfold Mv a_ent
  rw [h]
  exact h1
/-- a truth as a number -/
def bP (p : Prop) [Decidable p] : Int32 := if p then 1 else 0
theorem bP_t {p : Prop} [Decidable p] (h : p) : bP p = 1 := if_pos h
theorem bP_f {p : Prop} [Decidable p] (h : ¬ p) : bP p = 0 := if_neg h
theorem bP_0 {p : Prop} [Decidable p] : bP p = 0 ↔ ¬ p := by
  unfold bP
  split
  · rename_i h; exact ⟨fun q => absurd q (by decide), fun q => absurd h q⟩
  · rename_i h; exact ⟨fun _ => h, fun _ => rfl⟩
theorem bP_iff {p q : Prop} [Decidable p] [Decidable q] (h : p ↔ q) : bP p = bP q := by
  by_cases hp : p
  · rw [bP_t hp, bP_t (h.mp hp)]
  · rw [bP_f hp, bP_f (fun z => hp (h.mpr z))]
theorem bP_01 {p : Prop} [Decidable p] : bP p = 0 ∨ bP p = 1 := by
  by_cases hp : p
  · exact Or.inr (bP_t hp)
  · exact Or.inl (bP_f hp)
def iR (x y : Int32) : Int32 := x - x / y * y
theorem i_mono {c : Prop} [Decidable c] {A A' B B' : Prop} (h : if c then A else B) (h1 : c → A → A') (h2 : ¬ c → B → B') : if c then A' else B' := by
  by_cases hc : c
  · rw [if_pos hc] at h ⊢; exact h1 hc h
  · rw [if_neg hc] at h ⊢; exact h2 hc h
section RUL
variable {q pc a b w : Nat} {ls ls1 : aL} {st t : List aV} {m m1 : aM} {Q : Option aV → aM → Prop} {x y v i : Int32} {c d c' d' k j : Nat} {n : Int} {u u' : aV}
theorem r_s {ins : Instr} {pc1 : Nat} {st1 : List aV} (h : a_look q pc = some (ins, a, b, w)) (hs : a_step ins a b pc ls st m = some (pc1, ls1, st1, m1)) (h1 : Rg q pc1 ls1 st1 m1 Q) : Rg q pc ls st m Q := by
  obtain ⟨n, r, m', g, hQ⟩ := h1
  refine ⟨n + 1, r, m', ?_, hQ⟩
  unfold a_run
  rw [h]
  dsimp only
  rw [hs]
  exact g
theorem r_aload_n {kf : Fin 4} (h : a_look q pc = some (.aload_n kf, a, b, w)) (hl : ls[kf.val]? = some (some (.inr (c, d)))) (h1 : Rg q (pc + 1) ls (.inr (c, d) :: st) m Q) : Rg q pc ls st m Q := r_s h (by simp only [a_step, a_lr, hl]) h1
theorem r_aload (h : a_look q pc = some (.aload k, a, b, w)) (hl : ls[k]? = some (some (.inr (c, d)))) (h1 : Rg q (pc + 2) ls (.inr (c, d) :: st) m Q) : Rg q pc ls st m Q := r_s h (by simp only [a_step, a_lr, hl]) h1
theorem r_iload_n {kf : Fin 4} (h : a_look q pc = some (.iload_n kf, a, b, w)) (hl : ls[kf.val]? = some (some (.inl x))) (h1 : Rg q (pc + 1) ls (.inl x :: st) m Q) : Rg q pc ls st m Q := r_s h (by simp only [a_step, a_l1, hl]) h1
theorem r_iload (h : a_look q pc = some (.iload k, a, b, w)) (hl : ls[k]? = some (some (.inl x))) (h1 : Rg q (pc + 2) ls (.inl x :: st) m Q) : Rg q pc ls st m Q := r_s h (by simp only [a_step, a_l1, hl]) h1
theorem r_istore_n {kf : Fin 4} (h : a_look q pc = some (.istore_n kf, a, b, w)) (hk : kf.val < ls.length) (hl : ls.set kf.val (some (.inl x)) = ls1) (h1 : Rg q (pc + 1) ls1 st m Q) : Rg q pc ls (.inl x :: st) m Q := r_s h (by simp only [a_step, a_p1, a_st, if_pos hk, hl]) h1
theorem r_istore (h : a_look q pc = some (.istore k, a, b, w)) (hk : k < ls.length) (hl : ls.set k (some (.inl x)) = ls1) (h1 : Rg q (pc + 2) ls1 st m Q) : Rg q pc ls (.inl x :: st) m Q := r_s h (by simp only [a_step, a_p1, a_st, if_pos hk, hl]) h1
theorem r_astore_n {kf : Fin 4} (h : a_look q pc = some (.astore_n kf, a, b, w)) (hk : kf.val < ls.length) (hl : ls.set kf.val (some (.inr (c, d))) = ls1) (h1 : Rg q (pc + 1) ls1 st m Q) : Rg q pc ls (.inr (c, d) :: st) m Q := r_s h (by simp only [a_step, a_pr, a_st, if_pos hk, hl]) h1
theorem r_iinc (h : a_look q pc = some (.iinc k n, a, b, w)) (hn : Int32.ofInt n = y) (hl : ls[k]? = some (some (.inl x))) (hk : k < ls.length) (hs : ls.set k (some (.inl (x + y))) = ls1) (h1 : Rg q (pc + 3) ls1 st m Q) : Rg q pc ls st m Q := r_s h (by simp only [a_step, a_l1, hl, a_st, if_pos hk, hn, hs]) h1
theorem r_iconst (h : a_look q pc = some (.iconst n, a, b, w)) (hn : Int32.ofInt n = y) (h1 : Rg q (pc + 1) ls (.inl y :: st) m Q) : Rg q pc ls st m Q := r_s h (by simp only [a_step, hn]) h1
theorem r_bipush (h : a_look q pc = some (.bipush n, a, b, w)) (hn : (Int8.ofInt n).toInt32 = y) (h1 : Rg q (pc + 2) ls (.inl y :: st) m Q) : Rg q pc ls st m Q := r_s h (by simp only [a_step, hn]) h1
theorem r_sipush (h : a_look q pc = some (.sipush n, a, b, w)) (hn : (Int16.ofInt n).toInt32 = y) (h1 : Rg q (pc + 3) ls (.inl y :: st) m Q) : Rg q pc ls st m Q := r_s h (by simp only [a_step, hn]) h1
theorem r_iadd (h : a_look q pc = some (.iadd, a, b, w)) (h1 : Rg q (pc + 1) ls (.inl (x + y) :: st) m Q) : Rg q pc ls (.inl y :: .inl x :: st) m Q := r_s h rfl h1
theorem r_isub (h : a_look q pc = some (.isub, a, b, w)) (h1 : Rg q (pc + 1) ls (.inl (x - y) :: st) m Q) : Rg q pc ls (.inl y :: .inl x :: st) m Q := r_s h rfl h1
theorem r_imul (h : a_look q pc = some (.imul, a, b, w)) (h1 : Rg q (pc + 1) ls (.inl (x * y) :: st) m Q) : Rg q pc ls (.inl y :: .inl x :: st) m Q := r_s h rfl h1
theorem r_iand (h : a_look q pc = some (.iand, a, b, w)) (h1 : Rg q (pc + 1) ls (.inl (x &&& y) :: st) m Q) : Rg q pc ls (.inl y :: .inl x :: st) m Q := r_s h rfl h1
theorem r_ixor (h : a_look q pc = some (.ixor, a, b, w)) (h1 : Rg q (pc + 1) ls (.inl (x ^^^ y) :: st) m Q) : Rg q pc ls (.inl y :: .inl x :: st) m Q := r_s h rfl h1
theorem r_ishr (h : a_look q pc = some (.ishr, a, b, w)) (h1 : Rg q (pc + 1) ls (.inl (x >>> (y &&& 31)) :: st) m Q) : Rg q pc ls (.inl y :: .inl x :: st) m Q := r_s h rfl h1
theorem r_ldc {i : Nat} (h : a_look q pc = some (.ldc i, a, b, w)) (hn : nI a = y) (h1 : Rg q (pc + 2) ls (.inl y :: st) m Q) : Rg q pc ls st m Q := r_s h (by simp only [a_step, hn]) h1
theorem r_idiv (h : a_look q pc = some (.idiv, a, b, w)) (hy : ¬ y = 0) (h1 : Rg q (pc + 1) ls (.inl (x / y) :: st) m Q) : Rg q pc ls (.inl y :: .inl x :: st) m Q := r_s h (by simp only [a_step, a_p2, hy, not_false_eq_true, if_true]) h1
theorem r_irem (h : a_look q pc = some (.irem, a, b, w)) (hy : ¬ y = 0) (h1 : Rg q (pc + 1) ls (.inl (iR x y) :: st) m Q) : Rg q pc ls (.inl y :: .inl x :: st) m Q := r_s h (by simp only [a_step, a_p2, hy, not_false_eq_true, if_true, iR]) h1
theorem r_dup (h : a_look q pc = some (.dup, a, b, w)) (h1 : Rg q (pc + 1) ls (u :: u :: st) m Q) : Rg q pc ls (u :: st) m Q := r_s h rfl h1
theorem r_dup2 (h : a_look q pc = some (.dup2, a, b, w)) (h1 : Rg q (pc + 1) ls (u :: u' :: u :: u' :: st) m Q) : Rg q pc ls (u :: u' :: st) m Q := r_s h rfl h1
theorem r_pop (h : a_look q pc = some (.pop, a, b, w)) (h1 : Rg q (pc + 1) ls st m Q) : Rg q pc ls (u :: st) m Q := r_s h rfl h1
theorem r_goto (h : a_look q pc = some (.goto n, a, b, w)) (h1 : Rg q a ls st m Q) : Rg q pc ls st m Q := r_s h rfl h1
theorem r_if {o : Int} {kk : Jvm.ClassFile.Cond} {p : Prop} [Decidable p] (h : a_look q pc = some (.ifCond kk o, a, b, w)) (hp : a_cc kk x 0 = decide p) (h1 : if p then Rg q a ls st m Q else Rg q (pc + 3) ls st m Q) : Rg q pc ls (.inl x :: st) m Q := by
  by_cases hc : p
  · rw [if_pos hc] at h1
    exact r_s h (by simp only [a_step, a_p1, hp, decide_eq_true hc, if_true]) h1
  · rw [if_neg hc] at h1
    exact r_s h (by simp only [a_step, a_p1, hp, decide_eq_false hc, Bool.false_eq_true, if_false]) h1
theorem r_icmp {o : Int} {kk : Jvm.ClassFile.Cond} {p : Prop} [Decidable p] (h : a_look q pc = some (.if_icmp kk o, a, b, w)) (hp : a_cc kk x y = decide p) (h1 : if p then Rg q a ls st m Q else Rg q (pc + 3) ls st m Q) : Rg q pc ls (.inl y :: .inl x :: st) m Q := by
  by_cases hc : p
  · rw [if_pos hc] at h1
    exact r_s h (by simp only [a_step, a_p2, hp, decide_eq_true hc, if_true]) h1
  · rw [if_neg hc] at h1
    exact r_s h (by simp only [a_step, a_p2, hp, decide_eq_false hc, Bool.false_eq_true, if_false]) h1
/-- not: the jump is the other way -/
theorem r_ifn {o : Int} {kk : Jvm.ClassFile.Cond} {p : Prop} [Decidable p] (h : a_look q pc = some (.ifCond kk o, a, b, w)) (hp : a_cc kk x 0 = decide (¬ p)) (h1 : if p then Rg q (pc + 3) ls st m Q else Rg q a ls st m Q) : Rg q pc ls (.inl x :: st) m Q := by
  refine r_if (p := ¬ p) h hp ?_
  by_cases hc : p
  · rw [if_pos hc] at h1; rw [if_neg (fun z => z hc)]; exact h1
  · rw [if_neg hc] at h1; rw [if_pos hc]; exact h1
theorem r_icmpn {o : Int} {kk : Jvm.ClassFile.Cond} {p : Prop} [Decidable p] (h : a_look q pc = some (.if_icmp kk o, a, b, w)) (hp : a_cc kk x y = decide (¬ p)) (h1 : if p then Rg q (pc + 3) ls st m Q else Rg q a ls st m Q) : Rg q pc ls (.inl y :: .inl x :: st) m Q := by
  refine r_icmp (p := ¬ p) h hp ?_
  by_cases hc : p
  · rw [if_pos hc] at h1; rw [if_neg (fun z => z hc)]; exact h1
  · rw [if_neg hc] at h1; rw [if_pos hc]; exact h1
/-- a branch on a truth -/
theorem r_ifeqP {o : Int} {p : Prop} [Decidable p] (h : a_look q pc = some (.ifCond .eq o, a, b, w)) (h1 : if p then Rg q (pc + 3) ls st m Q else Rg q a ls st m Q) : Rg q pc ls (.inl (bP p) :: st) m Q := r_ifn h (by simp only [a_cc, bP_0]) h1
theorem r_ifneP {o : Int} {p : Prop} [Decidable p] (h : a_look q pc = some (.ifCond .ne o, a, b, w)) (h1 : if p then Rg q a ls st m Q else Rg q (pc + 3) ls st m Q) : Rg q pc ls (.inl (bP p) :: st) m Q := r_if h (by simp only [a_cc, bP_0, Decidable.not_not]) h1
theorem r_tsw {dflt lo hi : Int} {offs : Array Int} (h : a_look q pc = some (.tableswitch dflt lo hi offs, a, b, w)) (hx : ((pc : Int) + dflt ≥ 0 ∧ ∀ o ∈ offs.toList, (pc : Int) + o ≥ 0) ∧ (x.toInt < lo ∨ hi < x.toInt ∨ (x.toInt - lo).toNat < offs.size)) (h1 : Rg q (a_ts pc dflt lo hi offs x) ls st m Q) : Rg q pc ls (.inl x :: st) m Q := r_s h (by simp only [a_step, a_p1, if_pos hx]) h1
theorem r_lsw {dflt : Int} {ps : Array (Int × Int)} (h : a_look q pc = some (.lookupswitch dflt ps, a, b, w)) (hx : (pc : Int) + Op.lookupswitch.offset ps.toList dflt x.toInt ≥ 0) (h1 : Rg q (a_lk pc dflt ps x) ls st m Q) : Rg q pc ls (.inl x :: st) m Q := r_s h (by simp only [a_step, a_p1, if_pos hx]) h1
theorem r_getr (h : a_look q pc = some (.getfield j, a, b, w)) (hk : a_kd c = (0, a)) (hf : a_fr c d b = some (c', d')) (h1 : Rg q (pc + 3) ls (.inr (c', d') :: st) m Q) : Rg q pc ls (.inr (c, d) :: st) m Q := r_s h (by simp only [a_step, a_pr, if_pos hk, hf]) h1
theorem r_geti (h : a_look q pc = some (.getfield j, a, b, w)) (hk : a_kd c = (0, a)) (hf : a_fr c d b = none) (h1 : Rg q (pc + 3) ls (.inl (m c d b) :: st) m Q) : Rg q pc ls (.inr (c, d) :: st) m Q := r_s h (by simp only [a_step, a_pr, if_pos hk, hf]) h1
theorem r_put (h : a_look q pc = some (.putfield j, a, b, w)) (hk : a_kd c = (0, a) ∧ a_fr c d b = none) (hb : a_bf a b = true → x = 0 ∨ x = 1) (h1 : Rg q (pc + 3) ls st (a_up m c d b x) Q) : Rg q pc ls (.inl x :: .inr (c, d) :: st) m Q := r_s h (by simp only [a_step, a_p1r, if_pos (⟨hk, hb⟩ : (a_kd c = (0, a) ∧ a_fr c d b = none) ∧ (a_bf a b = true → x = 0 ∨ x = 1))]) h1
theorem r_gets (h : a_look q pc = some (.getstatic j, a, b, w)) (h1 : Rg q (pc + 3) ls (.inr (a, 0) :: st) m Q) : Rg q pc ls st m Q := r_s h rfl h1
theorem r_iald {N : Nat} (h : a_look q pc = some (.iaload, a, b, w)) (hk : (a_kd c).1 = 1 ∨ (a_kd c).1 = 4 ∨ (a_kd c).1 = 5) (hN : a_ln m c = N) (hi : a_in i N = true) (hj : i.toNatClampNeg = j) (h1 : Rg q (pc + 1) ls (.inl (m c d j) :: st) m Q) : Rg q pc ls (.inl i :: .inr (c, d) :: st) m Q := r_s h (by simp only [a_step, a_p1r, if_pos (⟨hk, hN ▸ hi⟩ : ((a_kd c).1 = 1 ∨ (a_kd c).1 = 4 ∨ (a_kd c).1 = 5) ∧ a_in i (a_ln m c) = true), hj]) h1
theorem r_bald {N : Nat} (h : a_look q pc = some (.baload, a, b, w)) (hk : (a_kd c).1 = 2) (hN : a_ln m c = N) (hi : a_in i N = true) (hj : i.toNatClampNeg = j) (h1 : Rg q (pc + 1) ls (.inl (m c d j) :: st) m Q) : Rg q pc ls (.inl i :: .inr (c, d) :: st) m Q := r_s h (by simp only [a_step, a_p1r, if_pos (⟨hk, hN ▸ hi⟩ : (a_kd c).1 = 2 ∧ a_in i (a_ln m c) = true), hj]) h1
theorem r_aald {N : Nat} (h : a_look q pc = some (.aaload, a, b, w)) (hk : (a_kd c).1 = 3) (hN : a_ln m c = N) (hi : a_in i N = true) (hj : i.toNatClampNeg = j) (h1 : Rg q (pc + 1) ls (.inr (0, a_el c j) :: st) m Q) : Rg q pc ls (.inl i :: .inr (c, d) :: st) m Q := r_s h (by simp only [a_step, a_p1r, if_pos (⟨hk, hN ▸ hi⟩ : (a_kd c).1 = 3 ∧ a_in i (a_ln m c) = true), hj]) h1
theorem r_iast {N : Nat} (h : a_look q pc = some (.iastore, a, b, w)) (hk : (a_kd c).1 = 1) (hN : a_ln m c = N) (hi : a_in i N = true) (hj : i.toNatClampNeg = j) (h1 : Rg q (pc + 1) ls st (a_up m c d j x) Q) : Rg q pc ls (.inl x :: .inl i :: .inr (c, d) :: st) m Q := r_s h (by simp only [a_step, a_p2r, if_pos (⟨hk, hN ▸ hi⟩ : (a_kd c).1 = 1 ∧ a_in i (a_ln m c) = true), hj]) h1
theorem r_bast {N : Nat} (h : a_look q pc = some (.bastore, a, b, w)) (hk : (a_kd c).1 = 2) (hN : a_ln m c = N) (hi : a_in i N = true) (hx : x = 0 ∨ x = 1) (hj : i.toNatClampNeg = j) (h1 : Rg q (pc + 1) ls st (a_up m c d j x) Q) : Rg q pc ls (.inl x :: .inl i :: .inr (c, d) :: st) m Q := r_s h (by simp only [a_step, a_p2r, if_pos (⟨⟨hk, hN ▸ hi⟩, hx⟩ : ((a_kd c).1 = 2 ∧ a_in i (a_ln m c) = true) ∧ (x = 0 ∨ x = 1)), hj]) h1
theorem r_alen {N : Nat} (h : a_look q pc = some (.arraylength, a, b, w)) (hk : (a_kd c).1 = 1 ∨ (a_kd c).1 = 5) (hN : a_ln m c = N) (h1 : Rg q (pc + 1) ls (.inl (nI N) :: st) m Q) : Rg q pc ls (.inr (c, d) :: st) m Q := r_s h (by simp only [a_step, a_pr, if_pos hk, hN]) h1
theorem r_min {i : Nat} (h : a_look q pc = some (.invokestatic i, 1000, b, w)) (hl : st.length ≤ 8) (h1 : Rg q (pc + 3) ls (.inl (if y < x then y else x) :: st) m Q) : Rg q pc ls (.inl y :: .inl x :: st) m Q := r_s h (by simp only [a_step, a_p2, if_true, if_pos hl]) h1
theorem r_cpy {i N sp dp : Nat} {c0 b0 c1 b1 : Nat} (h : a_look q pc = some (.invokestatic i, 1001, b, w)) (h0 : (a_kd c0).1 = 1 ∧ (a_kd c1).1 = 1) (hN : N < 2 ^ 31 ∧ N ≤ (a_kd c0).2 ∧ N ≤ (a_kd c1).2) (h1 : Rg q (pc + 3) ls [] (fun c b j => if c = c1 ∧ b = b1 ∧ j < N then m c0 b0 j else m c b j) Q) : Rg q pc ls [.inl (nI N), .inl 0, .inr (c1, b1), .inl 0, .inr (c0, b0)] m Q := by
  have hz : (0 : Int32).toNatClampNeg = 0 := by decide +kernel
  refine r_s h ?_ h1
  simp only [a_step, show ¬ (1001 = 1000) by decide, if_false, if_true, a_pcp]
  rw [if_pos ⟨h0, ⟨by decide +kernel, by decide +kernel, nI_pos hN.1⟩, by rw [hz, nI_clamp hN.1, Nat.zero_add]; exact hN.2.1, by rw [hz, nI_clamp hN.1, Nat.zero_add]; exact hN.2.2⟩]
  congr 4
  funext c b j
  rw [hz, nI_clamp hN.1]
  by_cases hc : c = c1 ∧ b = b1
  · rw [if_pos hc]
    obtain ⟨rfl, rfl⟩ := hc
    simp [va_cpy]
  · rw [if_neg hc, if_neg (fun z => hc ⟨z.1, z.2.1⟩)]
theorem r_cl {ins : Instr} {as : List aV} {n r m1} (h : a_look q pc = some (ins, a, k, w)) (hs : a_step ins a k pc ls st m = none) (hc : a_call ins a k st = some (as, t)) (g1 : a_run n a 0 (a_ent a as) [] m = some (r, m1)) (h1 : Rg q (pc + 3) ls (r.toList ++ t) m1 Q) : Rg q pc ls st m Q := by
  obtain ⟨n2, r2, m2, g2, hQ⟩ := h1
  refine ⟨n + n2 + 1, r2, m2, ?_, hQ⟩
  unfold a_run
  rw [h]
  dsimp only
  rw [hs, hc]
  dsimp only
  rw [a_run_le g1 (by omega)]
  dsimp only
  exact a_run_le g2 (by omega)
theorem r_cv {i : Nat} {as : List aV} (h : a_look q pc = some (.invokevirtual i, a, k, w)) (hc : a_call (.invokevirtual i) a k st = some (as, t)) (h1 : Mi a as m (fun v m1 => Rg q (pc + 3) ls (.inl v :: t) m1 Q)) : Rg q pc ls st m Q := by
  obtain ⟨n, r, m1, g1, h2⟩ := h1
  unfold qI at h2
  split at h2
  · exact r_cl h rfl hc g1 h2
  · exact h2.elim
theorem r_cvv {i : Nat} {as : List aV} (h : a_look q pc = some (.invokevirtual i, a, k, w)) (hc : a_call (.invokevirtual i) a k st = some (as, t)) (h1 : Mv a as m (fun m1 => Rg q (pc + 3) ls t m1 Q)) : Rg q pc ls st m Q := by
  obtain ⟨n, r, m1, g1, h2⟩ := h1
  unfold qV at h2
  split at h2
  · exact r_cl h rfl hc g1 h2
  · exact h2.elim
theorem a_step_st {i a b pc : Nat} (ha : a < 1000) : a_step (.invokestatic i) a b pc ls st m = none := by
  simp only [a_step]
  rw [if_neg (by omega), if_neg (by omega)]
theorem r_cs {i : Nat} {as : List aV} (h : a_look q pc = some (.invokestatic i, a, k, w)) (ha : a < 1000) (hc : a_call (.invokestatic i) a k st = some (as, t)) (h1 : Mi a as m (fun v m1 => Rg q (pc + 3) ls (.inl v :: t) m1 Q)) : Rg q pc ls st m Q := by
  obtain ⟨n, r, m1, g1, h2⟩ := h1
  unfold qI at h2
  split at h2
  · exact r_cl h (a_step_st ha) hc g1 h2
  · exact h2.elim
theorem r_csv {i : Nat} {as : List aV} (h : a_look q pc = some (.invokestatic i, a, k, w)) (ha : a < 1000) (hc : a_call (.invokestatic i) a k st = some (as, t)) (h1 : Mv a as m (fun m1 => Rg q (pc + 3) ls t m1 Q)) : Rg q pc ls st m Q := by
  obtain ⟨n, r, m1, g1, h2⟩ := h1
  unfold qV at h2
  split at h2
  · exact r_cl h (a_step_st ha) hc g1 h2
  · exact h2.elim
theorem r_end {ins : Instr} {r : Option aV} (h : a_look q pc = some (ins, a, b, w)) (hs : a_step ins a b pc ls st m = none) (hc : a_call ins a b st = none) (hr : a_ret (a_rt q) ins st = some r) (hQ : Q r m) : Rg q pc ls st m Q := by
  refine ⟨1, r, m, ?_, hQ⟩
  unfold a_run
  rw [h]
  dsimp only
  rw [hs, hc]
  dsimp only
  rw [hr]
theorem r_iret {Q : Int32 → aM → Prop} (h : a_look q pc = some (.ireturn, a, b, w)) (hr : a_rt q = some .int) (hQ : Q v m) : Rg q pc ls [.inl v] m (qI Q) := r_end (r := some (.inl v)) h rfl rfl (by rw [hr]; rfl) hQ
theorem r_zret {Q : Int32 → aM → Prop} (h : a_look q pc = some (.ireturn, a, b, w)) (hr : a_rt q = some .boolean) (h01 : v = 0 ∨ v = 1) (hQ : Q v m) : Rg q pc ls [.inl v] m (qI Q) := r_end (r := some (.inl v)) h rfl rfl (by rw [hr]; simp only [a_ret, if_pos h01]) hQ
theorem r_vret {Q : aM → Prop} (h : a_look q pc = some (.return_, a, b, w)) (hr : a_rt q = none) (hQ : Q m) : Rg q pc ls [] m (qV Q) := r_end (r := none) h rfl rfl (by rw [hr]; rfl) hQ
end RUL
