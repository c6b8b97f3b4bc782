/-! the runs of the abstract machine; what a world is; how it moves -/
def a_look (q pc : Nat) : Option aR := (a_ct.getD q []).lookup pc
def a_rt (q : Nat) : Option FieldType := match a_mt[q]? with
  | some M => M.2.2.2.1
  | none => none
def a_ml (q : Nat) : Nat := match a_mt[q]? with
  | some M => M.2.2.1
  | none => 0
def a_ent (q : Nat) (as : List aV) : aL := as.map some ++ List.replicate (a_ml q - as.length) none
def a_ci (q : Nat) : Nat := match a_mt[q]? with
  | some M => M.2.2.2.2.2.1
  | none => 99
/-- the receiver is of the method's class -/
def a_rcv (q : Nat) (as : List aV) : Bool := match as with
  | .inr (c, _) :: _ => decide (a_kd c = (0, a_ci q))
  | _ => false
/-- a call of a method of ours: its arguments, what stays on the stack -/
def a_call (ins : Instr) (a n : Nat) (st : List aV) : Option (List aV × List aV) := match ins with
  | .invokevirtual _ => if (n ≤ st.length ∧ st.length ≤ n + 8) ∧ a_rcv a (st.take n).reverse = true then some ((st.take n).reverse, st.drop n) else none
  | .invokestatic _ => if a < 1000 ∧ n ≤ st.length ∧ st.length ≤ n + 8 then some ((st.take n).reverse, st.drop n) else none
  | _ => none
def a_run : Nat → Nat → Nat → aL → List aV → aM → aO
  | 0, _, _, _, _, _ => none
  | n + 1, q, pc, ls, st, m => match a_look q pc with
    | none => none
    | some (ins, a, b, _) => match a_step ins a b pc ls st m with
      | some (pc', ls', st', m') => a_run n q pc' ls' st' m'
      | none => match a_call ins a b st with
        | some (as, t) => match a_run n a 0 (a_ent a as) [] m with
          | some (r, m') => a_run n q (pc + 3) ls (r.toList ++ t) m'
          | none => none
        | none => match a_ret (a_rt q) ins st with
          | some r => some (r, m)
          | none => none
abbrev aG : Type := ClassId × ClassId × ClassId × (Nat → Nat → Nat)
def a_cv (ad : Nat → Nat → Nat) (v : aV) : Value := match v with
  | .inl x => .int x
  | .inr (c, b) => .ref (ad c b)
theorem a_cv_cat (ad : Nat → Nat → Nat) (v : aV) : (a_cv ad v).category = 1 := by
  cases v <;> rfl
def a_vr (c b : Nat) : Prop := (c < 27 ∧ b < 10) ∨ (27 ≤ c ∧ c < 47 ∧ b = 0)
def a_vv (v : aV) : Prop := match v with
  | .inl _ => True
  | .inr (c, b) => a_vr c b
theorem a_vcons {v : aV} {st : List aV} (h : a_vv v) (hv : ∀ u ∈ st, a_vv u) : ∀ u ∈ v :: st, a_vv u := fun u hu => (List.mem_cons.mp hu).elim (fun q => q ▸ h) (hv u)
theorem a_vtl {v : aV} {st : List aV} (hv : ∀ u ∈ v :: st, a_vv u) : ∀ u ∈ st, a_vv u := fun u hu => hv u (List.mem_cons_of_mem _ hu)
theorem a_vhd {v : aV} {st : List aV} (hv : ∀ u ∈ v :: st, a_vv u) : a_vv v := hv v List.mem_cons_self
def a_fv (ad : Nat → Nat → Nat) (m : aM) (c b k : Nat) : Value := match a_fr c b k with
  | some r => .ref (ad r.1 r.2)
  | none => .int (m c b k)
def a_cell (g : aG) (m : aM) (c b : Nat) : va_E := match (a_kd c).1 with
  | 0 => .inr ((a_kd c).2, (List.range (a_nf c)).map (a_fv g.2.2.2 m c b))
  | 1 => .inl (g.1, (a_kd c).2, .inl (m c b))
  | 2 => .inl (g.2.1, (a_kd c).2, .inl (m c b))
  | _ => .inl (g.2.2.1, (a_kd c).2, .inr (.inr (.inr (.inr (fun j => some (g.2.2.2 0 (a_el c j)))))))
def a_rc (i : Nat) : Nat × Nat := if i < 270 then (i % 27, i / 27) else (i - 243, 0)
def a_ri (c b : Nat) : Nat := if c < 27 then 27 * b + c else c + 243
def a_ws (g : aG) (m : aM) : va_W := (List.range 283).map fun i => (g.2.2.2 (a_rc i).1 (a_rc i).2, a_cell g m (a_rc i).1 (a_rc i).2)
theorem a_rc_ri {c b : Nat} (h : a_vr c b) (hc : c < 40) : a_rc (a_ri c b) = (c, b) ∧ a_ri c b < 283 := by
  rcases h with ⟨h1, h2⟩ | ⟨h1, h2, h3⟩
  · have e : a_ri c b = 27 * b + c := if_pos h1
    rw [e]
    refine ⟨?_, by omega⟩
    unfold a_rc
    rw [if_pos (by omega), show (27 * b + c) % 27 = c by omega, show (27 * b + c) / 27 = b by omega]
  · have e : a_ri c b = c + 243 := if_neg (by omega)
    rw [e, h3]
    refine ⟨?_, by omega⟩
    unfold a_rc
    rw [if_neg (by omega), show c + 243 - 243 = c by omega]
theorem a_ri_rc {i : Nat} (h : i < 283) : a_ri (a_rc i).1 (a_rc i).2 = i := by
  unfold a_ri a_rc
  by_cases h1 : i < 270
  · rw [if_pos h1]
    dsimp only
    rw [if_pos (by omega)]
    omega
  · rw [if_neg h1]
    dsimp only
    rw [if_neg (by omega)]
    omega
theorem a_ws_get (g : aG) (m : aM) {c b : Nat} (h : a_vr c b) (hc : c < 40) : (a_ws g m)[a_ri c b]? = some (g.2.2.2 c b, a_cell g m c b) := by
  obtain ⟨h1, h2⟩ := a_rc_ri h hc
  rw [a_ws, List.getElem?_map, List.getElem?_range h2]
  show some (g.2.2.2 (a_rc (a_ri c b)).1 (a_rc (a_ri c b)).2, a_cell g m (a_rc (a_ri c b)).1 (a_rc (a_ri c b)).2) = _
  rw [h1]
theorem a_cell_congr (g : aG) {m m' : aM} {c b : Nat} (h : m' c b = m c b) : a_cell g m' c b = a_cell g m c b := by
  unfold a_cell a_fv
  rw [h]
theorem a_ws_set (g : aG) {m m' : aM} {c b : Nat} (h : a_vr c b) (hc : c < 40) (hm : ∀ c' b', (c' ≠ c ∨ b' ≠ b) → m' c' b' = m c' b') {e : va_E} (he : e = a_cell g m' c b) : (a_ws g m).set (a_ri c b) (g.2.2.2 c b, e) = a_ws g m' := by
  subst he
  obtain ⟨h1, h2⟩ := a_rc_ri h hc
  apply List.ext_getElem?
  intro j
  by_cases hj : j = a_ri c b
  · subst hj
    rw [List.getElem?_set_self (by rw [a_ws, List.length_map, List.length_range]; exact h2), a_ws_get g m' h hc]
  · rw [List.getElem?_set_ne (Ne.symm hj), a_ws, a_ws, List.getElem?_map, List.getElem?_map]
    by_cases hl : j < 283
    · rw [List.getElem?_range hl]
      show some (g.2.2.2 (a_rc j).1 (a_rc j).2, a_cell g m (a_rc j).1 (a_rc j).2) = some (g.2.2.2 (a_rc j).1 (a_rc j).2, a_cell g m' (a_rc j).1 (a_rc j).2)
      rw [a_cell_congr g (hm (a_rc j).1 (a_rc j).2 ?_)]
      by_cases q : (a_rc j).1 = c
      · refine Or.inr fun q2 => hj ?_
        rw [← a_ri_rc hl, q, q2]
      · exact Or.inl q
    · rw [List.getElem?_eq_none (by rw [List.length_range]; omega)]
      rfl
def a_tys (g : aG) : List (ClassId × FieldType) := [(g.1, .int), (g.2.1, .boolean), (g.2.2.1, .object "VacantAir$State")]
def a_A (base : Nat) : Nat → Prop := fun q => base ≤ q
def a_Dyn (base : Nat) (D : va_G) (g : aG) (m : aM) (H : Heap) : Prop := va_P D vwCl (a_ws g m) H ∧ va_D (a_A base) (a_ws g m)
def a_Sta (base : Nat) (D : va_G) (g : aG) (m : aM) (U : State) : Prop := va_K D vwCl (a_tys g) U ∧ (∀ c, 41 ≤ c → c < 46 → va_Z "VacantAir" (a_sn c) "[I" (.ref (g.2.2.2 c 0)) (a_A base) U U.heap ∧ va_T .int (g.2.2.2 c 0) (a_kd c).2 (fun j => .int (m c 0 j)) (a_A base) U U.heap) ∧ (va_X (g.2.2.2 46 0) (m 47 0 0).toNatClampNeg (m 46 0) U U.heap ∧ g.2.2.2 46 0 < base ∧ base ≤ U.heap.size) ∧ ∀ w ∈ a_nst, va_Nw w U
theorem a_Sta_same {base : Nat} {D : va_G} {g : aG} {m : aM} {u U : State} (h1 : u.vm = U.vm) (h2 : u.heap = U.heap) (h : a_Sta base D g m u) : a_Sta base D g m U := by
  have hvm : u.vm.Alike U.vm := h1 ▸ Vm.Alike.refl u.vm
  obtain ⟨a1, a2, ⟨a3, a4, a5⟩, a6⟩ := h
  refine ⟨a1.moved hvm, fun c q1 q2 => ⟨?_, ?_⟩, ⟨?_, a4, h2 ▸ a5⟩, fun w hw => va_Nw.same ?_ h1 (a6 w hw)⟩
  · rw [← h2]; exact (a2 c q1 q2).1.moved hvm
  · rw [← h2]; exact (a2 c q1 q2).2.moved hvm
  · rw [← h2]; exact a3.moved hvm
  · exact (List.all_eq_true.mp (show a_nst.all (fun w => w.onTables) = true by decide +kernel) w hw)
def a_isN (w : Cond) : Bool := match w with
  | .methodLinkNest _ _ _ _ => true
  | .fieldLinkNest _ _ _ _ _ _ => true
  | _ => false
theorem a_nst_warm {s U : State} (hW : s.WarmedH U.vm) : (∀ w ∈ a_nst, va_Nw w s) → ∀ w ∈ a_nst, va_Nw w U := by
  intro h w hw
  have hk : a_isN w = true := List.all_eq_true.mp (show a_nst.all a_isN = true by decide +kernel) w hw
  have h1 := h w hw
  cases w with
  | methodLinkNest a b c d => exact va_Nw.warmM hW h1
  | fieldLinkNest a b c d e f => exact va_Nw.warmF hW h1
  | _ => cases hk
theorem a_Sta_moved {base : Nat} {D : va_G} {g : aG} {m m' : aM} {s U : State} (hW : s.WarmedH U.vm) (hz : s.heap.size ≤ U.heap.size) (hq : ∀ q : Nat, q < s.heap.size → ¬ a_A base q → U.heap[q]? = s.heap[q]?) (hm : ∀ c, 41 ≤ c → m' c = m c) (h : a_Sta base D g m s) : a_Sta base D g m' U := by
  have hvm := hW.alike
  obtain ⟨a1, a2, ⟨a3, a4, a5⟩, a6⟩ := h
  refine ⟨a1.moved hvm, fun c q1 q2 => ⟨?_, ?_⟩, ⟨?_, a4, Nat.le_trans a5 hz⟩, a_nst_warm hW a6⟩
  · exact ((a2 c q1 q2).1.kept hq).moved hvm
  · rw [hm c q1]
    exact ((a2 c q1 q2).2.kept hq).moved hvm
  · rw [hm 46 (by omega), hm 47 (by omega)]
    exact (a3.kept (hq _ (Nat.lt_of_lt_of_le a4 a5) (Nat.not_le.mpr a4))).moved hvm
/-! the locals -/
def a_lv (ad : Nat → Nat → Nat) (ls : aL) : List (Nat × Value) := (List.range ls.length).filterMap fun i => match ls[i]? with
  | some (some v) => some (i, a_cv ad v)
  | _ => none
def a_LS (g : aG) (ls : aL) (ls' : Array Slot) (n : Nat) : Prop := ls'.size = n ∧ lv_wf ls' ∧ ls.length ≤ n ∧ ∀ (i : Nat) (v : aV), ls[i]? = some (some v) → ls'[i]? = some (.val (a_cv g.2.2.2 v)) ∧ a_vv v
theorem a_lv_mem {ad : Nat → Nat → Nat} {ls : aL} {i : Nat} {v : aV} (h : ls[i]? = some (some v)) : (i, a_cv ad v) ∈ a_lv ad ls := by
  have hi := (List.getElem?_eq_some_iff.mp h).1
  exact List.mem_filterMap.mpr ⟨i, List.mem_range.mpr hi, by rw [h]⟩
theorem a_lv_has {g : aG} {ls : aL} {ls' : Array Slot} {n : Nat} (h : a_LS g ls ls' n) : lv_has ls' n (a_lv g.2.2.2 ls) := by
  refine ⟨h.1, h.2.1, fun q hq => ?_⟩
  obtain ⟨i, -, hi⟩ := List.mem_filterMap.mp hq
  split at hi
  · rename_i v e
    cases hi
    exact (h.2.2.2 i v e).1
  · cases hi
theorem a_LS_store {g : aG} {ls : aL} {ls' ls2 : Array Slot} {n k : Nat} {v : aV} (h : a_LS g ls ls' n) (hv : a_vv v) (h2 : lv_has ls2 n ((k, a_cv g.2.2.2 v) :: (a_lv g.2.2.2 ls).filter (fun q => !(q.1 == k) && !(q.1 + 1 == k && q.2.category == 2)))) : a_LS g (ls.set k (some v)) ls2 n := by
  refine ⟨h2.1, h2.2.1, by rw [List.length_set]; exact h.2.2.1, fun i u hu => ?_⟩
  by_cases hik : i = k
  · subst hik
    have hi : i < ls.length := by
      have := (List.getElem?_eq_some_iff.mp hu).1
      rwa [List.length_set] at this
    rw [List.getElem?_set_self hi] at hu
    cases hu
    exact ⟨h2.2.2 _ List.mem_cons_self, hv⟩
  · rw [List.getElem?_set_ne (Ne.symm hik)] at hu
    refine ⟨h2.2.2 (i, a_cv g.2.2.2 u) (List.mem_cons_of_mem _ (List.mem_filter.mpr ⟨a_lv_mem hu, ?_⟩)), (h.2.2.2 i u hu).2⟩
    simp [hik, a_cv_cat]
theorem a_LS_entry {g : aG} (as : List aV) {n : Nat} (hn : as.length ≤ n) (hv : ∀ v ∈ as, a_vv v) {ls' : Array Slot} (h : lv_has ls' n (lv_args 0 (as.map (a_cv g.2.2.2)))) : a_LS g (as.map some ++ List.replicate (n - as.length) none) ls' n := by
  refine ⟨h.1, h.2.1, by simp; omega, fun i v hi => ?_⟩
  have key : ∀ (as : List aV) (j i : Nat) (v : aV), as[i]? = some v → (j + i, a_cv g.2.2.2 v) ∈ lv_args j (as.map (a_cv g.2.2.2)) := by
    intro as
    induction as with
    | nil => intro j i v h; simp at h
    | cons a as ih =>
      intro j i v h
      cases i with
      | zero =>
        rw [List.getElem?_cons_zero] at h
        cases h
        exact List.mem_cons_self
      | succ i =>
        rw [List.getElem?_cons_succ] at h
        have := ih (j + 1) i v h
        rw [List.map_cons, lv_args, if_neg (by rw [a_cv_cat]; decide)]
        rw [show j + (i + 1) = j + 1 + i by omega]
        exact List.mem_cons_of_mem _ this
  by_cases hl : i < (as.map some).length
  · rw [List.getElem?_append_left hl, List.getElem?_map] at hi
    cases ha : as[i]? with
    | none => rw [ha] at hi; cases hi
    | some u =>
      rw [ha] at hi
      have hu : u = v := Option.some.inj (Option.some.inj hi)
      subst hu
      have := key as 0 i u ha
      rw [Nat.zero_add] at this
      exact ⟨h.2.2 _ this, hv u (List.mem_of_getElem? ha)⟩
  · rw [List.getElem?_append_right (by omega)] at hi
    have := List.eq_of_mem_replicate (List.mem_of_getElem? hi)
    cases this
/-! facts of the tables, by looking at all of them -/
theorem a_kd_out {c : Nat} (h : 47 ≤ c) : a_kd c = (9, 0) := by
  unfold a_kd
  rw [List.getD_eq_getElem?_getD, List.getElem?_eq_none (by show (47 : Nat) ≤ c; exact h)]
  rfl
theorem a_kd_lt {c t : Nat} (h : (a_kd c).1 = t) (ht : t ≤ 5) : c < 47 := by
  by_cases hc : c < 47
  · exact hc
  · rw [a_kd_out (by omega)] at h
    change 9 = t at h
    omega
theorem a_kd_3 {c : Nat} (h : (a_kd c).1 ≤ 3) : c < 40 := by
  have h47 := a_kd_lt (c := c) rfl (by omega)
  have := (show ∀ c, c < 47 → (a_kd c).1 ≤ 3 → c < 40 by decide +kernel) c h47
  exact this h
theorem a_kd_4 {c : Nat} (h : (a_kd c).1 = 4) : 41 ≤ c ∧ c < 46 :=
  (show ∀ c, c < 47 → (a_kd c).1 = 4 → 41 ≤ c ∧ c < 46 by decide +kernel) c (a_kd_lt h (by omega)) h
theorem a_kd_5 {c : Nat} (h : (a_kd c).1 = 5) : c = 46 :=
  (show ∀ c, c < 47 → (a_kd c).1 = 5 → c = 46 by decide +kernel) c (a_kd_lt h (by omega)) h
theorem a_kd_nf {c ci : Nat} (h : a_kd c = (0, ci)) {q : vw_C} (hq : vwCl[ci]? = some q) : a_nf c = q.2.2 := by
  have h47 : c < 47 := a_kd_lt (t := 0) (by rw [h]) (by omega)
  have := (show ∀ c, c < 47 → (a_kd c).1 = 0 → (vwCl[(a_kd c).2]?).map (fun q => q.2.2) = some (a_nf c) by decide +kernel) c h47 (by rw [h])
  rw [h, hq] at this
  exact (Option.some.inj this).symm
theorem a_ft_ok {c b k c' b' : Nat} (hv : a_vr c b) (hc : c < 40) (h : a_fr c b k = some (c', b')) : a_vr c' b' := by
  have hk : k < 13 := by
    by_cases hk : k < 13
    · exact hk
    · have hn : a_ft c k = none := by
        unfold a_ft
        rw [List.getD_eq_getElem?_getD, List.getElem?_eq_none]
        · rfl
        · have := (show ∀ c, c < 40 → (a_frs.getD c []).length ≤ 13 by decide +kernel) c hc
          omega
      rw [a_fr, hn] at h
      cases h
  have key := (show ∀ c, c < 40 → ∀ k, k < 13 → (match a_ft c k with | none => true | some (c', none) => decide (c' < 27) && decide (c < 27) | some (c', some d) => (decide (c' < 27) && decide (d < 10)) || (decide (27 ≤ c') && decide (c' < 47) && decide (d = 0))) = true by decide +kernel) c hc k hk
  unfold a_fr at h
  split at h
  · cases h
  · rename_i q
    rw [q] at key
    simp only [Bool.and_eq_true, decide_eq_true_eq] at key
    cases h
    rcases hv with ⟨h1, h2⟩ | ⟨h1, h2, h3⟩
    · exact Or.inl ⟨key.1, h2⟩
    · omega
  · rename_i q
    rw [q] at key
    simp only [Bool.or_eq_true, Bool.and_eq_true, decide_eq_true_eq] at key
    cases h
    rcases key with ⟨h1, h2⟩ | ⟨⟨h1, h2⟩, h3⟩
    · exact Or.inl ⟨h1, h2⟩
    · exact Or.inr ⟨h1, h2, h3⟩
theorem a_cls {ci : Nat} {C : String} {T : u_T} {N : Nat} (h : vwCl[ci]? = some (C, T, N)) : (∀ w ∈ u_ws C T N, w ∈ wsL_law) ∧ (∀ a, a < N → ∀ b, b < N → a ≠ b → (T a).2.1 ≠ (T b).2.1) ∧ ∃ ty : Nat → FieldType, ∀ k, k < N → parseFieldDescriptor (T k).2.2.1 = some (ty k) := by
  match ci, h with
  | 0, h => cases h; exact ⟨inlX0, nmX0, tyX0, tyX0_ok⟩
  | 1, h => cases h; exact ⟨inlX1, nmX1, tyX1, tyX1_ok⟩
  | 2, h => cases h; exact ⟨inlX2, nmX2, tyX2, tyX2_ok⟩
  | 3, h => cases h; exact ⟨inlX3, nmX3, tyX3, tyX3_ok⟩
  | 4, h => cases h; exact ⟨inlX4, nmX4, tyX4, tyX4_ok⟩
  | 5, h => cases h; exact ⟨inlX5, nmX5, tyX5, tyX5_ok⟩
  | 6, h => cases h; exact ⟨inlX6, nmX6, tyX6, tyX6_ok⟩
  | k + 7, h => simp [vwCl] at h
theorem a_wsp {w : Nat} {c : Cond} (h : a_w w c = true) : c ∈ wsL_law := by
  have h1 := List.mem_of_getElem? (of_decide_eq_true h)
  rw [List.getD_eq_getElem?_getD] at h1
  cases hk : a_wchs[w / 100]? with
  | none => rw [hk] at h1; exact absurd h1 List.not_mem_nil
  | some l => rw [hk] at h1; exact a_wchs_in l (List.mem_of_getElem? hk) c h1
theorem a_nwp {w : Nat} {c : Cond} (h : a_nw w c = true) : c ∈ a_nst := List.mem_of_getElem? (of_decide_eq_true h)
