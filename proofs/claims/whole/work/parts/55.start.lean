/-! THE CLAIM OUT OF ONE WALK OF THE LAW'S BODY. Your part is whole_start (and what it stands on); all else here is the same for every law, but numbers. -/
def R_law : String := "VacantAirLaw"
def lw_P (b : Addr) (xs : List Int32) (args : Array Value) (s : State) : Prop := args = #[.ref b] ∧ s.IntsAt b xs ∧ xs.length ≤ 3584 ∧ (Jvm.Cond.and given_1 narrow_1).before args s = true
def lw_Q (_ : Array Value) (s : State) (o : Outcome) (t : State) : Prop := o = .returned (some (.int 1)) ∧ Framed s o t [] 600000 7302250
def lw_Z (below : List Frame) (a : Array Value) (s : State) : State → Prop := fun t => ∃ o, t.status = .running ∧ Ended t below o ∧ lw_Q a s o t
/-- the law's own end, with 1 on the stack, nothing written that was there before, its room as the claim has it -/
theorem lw_ret {p : Program} {l : Launch} {e : Env} {s : State} {m : MethodId} {below : List Frame} {meth : Method} {c : Code} {b : Nat} (hx : p.tables.exec = Jvm.exec) (hb : c.code = code) (hr : meth.sig.returnType = ret) (hlocks : meth.locks = false) {pc : Nat} {H : Heap} {ls : Array Slot} (hdg : decode code pc = .ok (.ireturn, 1)) : W p l e room_1 s m #[Value.ref b] below meth c H [] 600000 7302250 (lw_Z below #[Value.ref b] s) (F0 m pc ls [.int 1]) := by
  intro T hT X
  obtain ⟨fs, hret, hrun, hended, hW, hframe⟩ := X.leave (v := some (.int 1)) (hlocks := hlocks) (fun h => by rw [hr] at h; cases h)
  have hmeth' : T.vm.method? m = some meth := X.method'
  refine ⟨T.setFrames fs, ?_, .returned (some (.int 1)), hrun, hended, rfl, ⟨_, rfl⟩, hW, hframe⟩
  jvm_step X.here [X.here.top, hx, hb, hdg, hmeth', hr, ret, narrow_b1]
  (try refine ⟨rfl, ?_⟩); (try refine ⟨rfl, ?_⟩)
  first | (intro acts; rw [hret _ acts rfl rfl rfl]) | rw [hret _ _ rfl rfl rfl]
  exact Steps.refl _
/-- what holds at the law's entry: the machine, the code, the tables' words (any of lw_tbl by 'hts w (by decide +kernel)'), the script of L ints xs at the cell b, what the Statement gives of the start (any of its parts by flat_of_before) -/
def lw_At (p : Program) (s : State) (m : MethodId) (meth : Method) (c : Code) (b L : Nat) (xs : Nat → Int32) : Prop :=
  p.tables.exec = Jvm.exec ∧ c.code = code ∧ meth.sig.returnType = ret ∧ c.maxLocals = 4 ∧ s.vm.findClass R_law = some m.cls ∧ (∀ w ∈ lw_tbl, w.before #[Value.ref b] s = true) ∧ va_X b L xs s s.heap ∧ b < s.heap.size ∧ meth.locks = false ∧ (Jvm.Cond.and given_1 narrow_1).before #[Value.ref b] s = true
theorem dL_0 : decode code 0 = .ok (.new 7, 3) := by decide +kernel
theorem dL_3 : decode code 3 = .ok (.dup, 1) := by decide +kernel
theorem dL_4 : decode code 4 = .ok (.invokespecial 9, 3) := by decide +kernel
theorem dL_7 : decode code 7 = .ok (.astore_n 1, 1) := by decide +kernel
theorem dL_8 : decode code 8 = .ok (.new 10, 3) := by decide +kernel
theorem dL_11 : decode code 11 = .ok (.dup, 1) := by decide +kernel
theorem dL_12 : decode code 12 = .ok (.invokespecial 12, 3) := by decide +kernel
theorem dL_15 : decode code 15 = .ok (.astore_n 2, 1) := by decide +kernel
theorem dL_16 : decode code 16 = .ok (.iconst 0, 1) := by decide +kernel
theorem dL_17 : decode code 17 = .ok (.istore_n 3, 1) := by decide +kernel
theorem b_mt175 : a_mt[175]? = some a_m175 := by
  have h : a_mtl.length = 175 := by decide +kernel
  unfold a_mt
  rw [List.getElem?_append_right (by omega), h]
  rfl
theorem b_tab {s : State} {args : Array Value} {nm : String} {vs : List Int32} {N : Nat} (hN : N < 2 ^ 31) (hl : (Cond.laysStatic "VacantAir" nm "[I").before args s = true) (hini : (Cond.initialized "VacantAir").before args s = true) (harr : (Cond.arrayOf (.static "VacantAir" nm "[I") .int).before args s = true) (hlen : (Cond.eq (.length (.static "VacantAir" nm "[I")) (.int (Int32.ofNat N))).before args s = true) (hel : ∀ j : Nat, j < N → (Cond.eq (.elem (.static "VacantAir" nm "[I") (.int (Int32.ofNat j))) (.int (b_row vs j))).before args s = true) : ∃ t : Nat, va_Z "VacantAir" nm "[I" (.ref t) (a_A s.heap.size) s s.heap ∧ va_T .int t N (fun j => .int (b_row vs j)) (a_A s.heap.size) s s.heap := by
  have hA : ∀ a : Nat, a < s.heap.size → ¬ a_A s.heap.size a := fun a h h2 => absurd h (Nat.not_lt.mpr h2)
  obtain ⟨t, ht, hT⟩ := va_Tof (f := fun j => .int (b_row vs j)) (A := a_A s.heap.size) hN harr (va_eqt hlen) (fun j hj => va_eqt (hel j hj)) hA
  exact ⟨t, va_Zof hl hini ht hA, hT⟩
theorem b_known {p : Program} {s : State} {m : MethodId} {meth : Method} {c : Code} {b L : Nat} {xs : Nat → Int32} (C0 : lw_At p s m meth c b L xs) : ∃ (D : va_G) (cI cZ cS : ClassId), va_K D vwCl [(cI, .int), (cZ, .boolean), (cS, .object "VacantAir$State")] s := by
  obtain ⟨-, -, -, -, -, hts, -⟩ := id C0
  obtain ⟨c0, i0, k0⟩ := u_known (C := RX0) (T := TX0) (N := 8) (n := 8) hts inX0 (hts (.instantiable RX0 8) (by decide +kernel))
  obtain ⟨c1, i1, k1⟩ := u_known (C := RX1) (T := TX1) (N := 11) (n := 11) hts inX1 (hts (.instantiable RX1 11) (by decide +kernel))
  obtain ⟨c2, i2, k2⟩ := u_known (C := RX2) (T := TX2) (N := 8) (n := 8) hts inX2 (hts (.instantiable RX2 8) (by decide +kernel))
  obtain ⟨c3, i3, k3⟩ := u_known (C := RX3) (T := TX3) (N := 3) (n := 3) hts inX3 (hts (.instantiable RX3 3) (by decide +kernel))
  obtain ⟨c4, i4, k4⟩ := u_known (C := RX4) (T := TX4) (N := 6) (n := 6) hts inX4 (hts (.instantiable RX4 6) (by decide +kernel))
  obtain ⟨c5, i5, k5⟩ := u_known (C := RX5) (T := TX5) (N := 6) (n := 6) hts inX5 (hts (.instantiable RX5 6) (by decide +kernel))
  obtain ⟨c6, i6, k6⟩ := u_known (C := RX6) (T := TX6) (N := 6) (n := 6) hts inX6 (hts (.instantiable RX6 6) (by decide +kernel))
  obtain ⟨c7, i7, k7⟩ := u_known (C := RX7) (T := TX7) (N := 13) (n := 13) hts inX7 (hts (.instantiable RX7 13) (by decide +kernel))
  obtain ⟨cI, kI, pI, e1, e2, e3⟩ := Cond.arrayClass_spec (hts (.arrayClass .int) (by decide +kernel))
  obtain ⟨cZ, kZ, pZ, z1, z2, z3⟩ := Cond.arrayClass_spec (hts (.arrayClass .boolean) (by decide +kernel))
  obtain ⟨comp, cS, kS, f1, f2, f3, f4, f5⟩ := Cond.arrayOver_spec (hts (.arrayOver (.object "VacantAir$State")) (by decide +kernel))
  refine ⟨(fun k => [c0, c1, c2, c3, c4, c5, c6, c7].getD k 0, fun k => [i0, i1, i2, i3, i4, i5, i6, i7].getD k (fun _ => 0)), cI, cZ, cS, fun k q hq => ?_, fun k q hq => ?_⟩
  · match k, hq with
    | 0, hq => cases hq; exact k0
    | 1, hq => cases hq; exact k1
    | 2, hq => cases hq; exact k2
    | 3, hq => cases hq; exact k3
    | 4, hq => cases hq; exact k4
    | 5, hq => cases hq; exact k5
    | 6, hq => cases hq; exact k6
    | 7, hq => cases hq; exact k7
    | k + 8, hq => simp [vwCl] at hq
  · match k, hq with
    | 0, hq => cases hq; exact ⟨fun n z => ⟨fun k h => (by cases h), kI, e2, pI, e3⟩, e1⟩
    | 1, hq => cases hq; exact ⟨fun n z => ⟨fun k h => (by cases h), kZ, z2, pZ, z3⟩, z1⟩
    | 2, hq => cases hq; exact ⟨fun n z => ⟨fun k h => (by cases h), kS, f3, comp, f4⟩, kS, comp, f3, f4, f1, f5⟩
    | k + 3, hq => simp at hq
theorem b_nst : ∀ w ∈ a_nst, w ∈ lw_tbl := by decide +kernel
theorem b_tbs : ∀ w ∈ b_tb, w ∈ lw_tbl := by decide +kernel
theorem b_nst_on : ∀ w ∈ a_nst, w.onTables = true := fun w hw => List.all_eq_true.mp (show a_nst.all (fun w => w.onTables) = true by decide +kernel) w hw
theorem b_tbs_on : ∀ w ∈ b_tb, w.onTables = true := fun w hw => List.all_eq_true.mp (show b_tb.all (fun w => w.onTables) = true by decide +kernel) w hw
theorem b_start {p : Program} {s : State} {m : MethodId} {meth : Method} {c : Code} {b L : Nat} {xs : Nat → Int32} (hL : L ≤ 3584) (C0 : lw_At p s m meth c b L xs) : ∃ (D : va_G) (cI cZ cS : ClassId) (a0 : Nat → Nat), a0 46 = b ∧ a_Sta s.heap.size D (cI, cZ, cS, fun c _ => a0 c) (b_m0 L xs) s ∧ b_Tab s := by
  obtain ⟨D, cI, cZ, cS, hK⟩ := b_known C0
  obtain ⟨-, -, -, -, -, hts, hX, hbl, -, hgv⟩ := id C0
  have hf := flat_of_before _ hgv
  have hini := hts (.initialized "VacantAir") (by decide +kernel)
  have el : ∀ (nm : String) (vs : List Int32) (N : Nat), (∀ j : Nat, j < N → Cond.eq (.elem (.static "VacantAir" nm "[I") (.int (Int32.ofNat j))) (.int (b_row vs j)) ∈ flatC (Jvm.Cond.and given_1 narrow_1)) → ∀ j : Nat, j < N → (Cond.eq (.elem (.static "VacantAir" nm "[I") (.int (Int32.ofNat j))) (.int (b_row vs j))).before #[Value.ref b] s = true := fun _ _ _ h j hj => hf _ (h j hj)
  obtain ⟨t1, z1, y1⟩ := b_tab (nm := "RADII") (vs := [4, 9, 16, 26, 40]) (N := 5) (by decide) (hts _ (by decide +kernel)) hini (hf _ (by decide +kernel)) (hf _ (by decide +kernel)) (el _ _ _ (by decide +kernel))
  obtain ⟨t2, z2, y2⟩ := b_tab (nm := "REACHES") (vs := [1, 3, 6, 10]) (N := 4) (by decide) (hts _ (by decide +kernel)) hini (hf _ (by decide +kernel)) (hf _ (by decide +kernel)) (el _ _ _ (by decide +kernel))
  obtain ⟨t3, z3, y3⟩ := b_tab (nm := "FIRST_VALUES") (vs := [40, 4, 3]) (N := 3) (by decide) (hts _ (by decide +kernel)) hini (hf _ (by decide +kernel)) (hf _ (by decide +kernel)) (el _ _ _ (by decide +kernel))
  obtain ⟨t4, z4, y4⟩ := b_tab (nm := "LEAST_VALUES") (vs := [0, 1, 0]) (N := 3) (by decide) (hts _ (by decide +kernel)) hini (hf _ (by decide +kernel)) (hf _ (by decide +kernel)) (el _ _ _ (by decide +kernel))
  obtain ⟨t5, z5, y5⟩ := b_tab (nm := "GREATEST_VALUES") (vs := [100, 12, 20]) (N := 3) (by decide) (hts _ (by decide +kernel)) hini (hf _ (by decide +kernel)) (hf _ (by decide +kernel)) (el _ _ _ (by decide +kernel))
  refine ⟨D, cI, cZ, cS, fun c => if c = 41 then t1 else if c = 42 then t2 else if c = 43 then t3 else if c = 44 then t4 else if c = 45 then t5 else b, rfl, ⟨hK, fun c q1 q2 => ?_, ⟨?_, hbl, Nat.le_refl _⟩, fun w hw => va_Nw.of (b_nst_on w hw) (hts w (b_nst w hw))⟩, fun w hw => va_Nw.of (b_tbs_on w hw) (hts w (b_tbs w hw)), va_AO.of (hts (.arrayOver (.object "VacantAir$State")) (by decide +kernel))⟩
  · rcases (show c = 41 ∨ c = 42 ∨ c = 43 ∨ c = 44 ∨ c = 45 by omega) with rfl | rfl | rfl | rfl | rfl
    · exact ⟨z1, y1⟩
    · exact ⟨z2, y2⟩
    · exact ⟨z3, y3⟩
    · exact ⟨z4, y4⟩
    · exact ⟨z5, y5⟩
  · show va_X b (nI L).toNatClampNeg xs s s.heap
    rw [nI_clamp (by omega)]
    exact hX
theorem b_ret {ins : Instr} {st : List aV} {r : Option aV} {m' : aM} (h : a_ret (some .boolean) ins st = some r) (hq : qI (fun v _ => v = 1) r m') : ins = .ireturn ∧ st = [.inl 1] := by
  unfold a_ret at h
  split at h
  · rename_i e; cases e
  · rename_i v _
    obtain ⟨-, h⟩ := a_if_i h
    cases h
    have hv : v = 1 := hq
    subst hv
    exact ⟨rfl, rfl⟩
  · rename_i e; cases e
  · cases h
set_option maxHeartbeats 8000000 in
set_option maxRecDepth 100000 in
/-- from the entry, for every script of at most 3584 ints, the law comes to its end with true -/
theorem whole_start {p : Program} {e : Env} {s : State} {m : MethodId} {below : List Frame} {meth : Method} {c : Code} (l : Launch) (hflags : l.flags = flags0) {b L : Nat} {xs : Nat → Int32} (hL : L ≤ 3584) (C0 : lw_At p s m meth c b L xs) : W p l e room_1 s m #[Value.ref b] below meth c s.heap [] 0 0 (lw_Z below #[Value.ref b] s) (entryFrame m ([Value.ref b] : List Value).toArray 4) := by
  obtain ⟨hx, hb, hr, hml, hown, hts, hX, hbl, hlocks, hgv⟩ := id C0
  have hown : s.vm.findClass RL = some m.cls := hown
  obtain ⟨D, cI, cZ, cS, a0, ha0, hSt, hTb⟩ := b_start hL C0
  have hwl : ∀ w ∈ wsL_law, w.before #[Value.ref b] s = true := fun w hw => hts w (wsL_law_in w hw)
  have hK := hSt.1
  have hA : ∀ q : Nat, s.heap.size ≤ q → a_A s.heap.size q := fun _ h => h
  have hAb : ∀ q : Nat, a_A s.heap.size q → s.heap.size ≤ q := fun _ h => h
  have hS : va_S (a_A s.heap.size) s.heap s.heap [] := va_S.rf
  have hP : va_P D vwCl ([] : va_W) s.heap := fun k q h => by simp at h
  have hD : va_D (a_A s.heap.size) ([] : va_W) := ⟨fun i j p q h => by simp at h, fun k q h => by simp at h⟩
  have hl := lv_entry ([.ref b]) (n := 4) (Nat.le_of_ble_eq_true rfl)
  rw [lg_entry_eq]
  generalize (lg_sl ([.ref b]) ++ List.replicate (4 - (lg_sl ([.ref b])).length) Slot.unset).toArray = ls at hl ⊢
  have hl : lv_has ls 4 [(0, .ref b)] := hl
  refine va_new (ci := 6) (fs := [.null, .null, .null, .null, .null, .null]) (C := RX6) (T := TX6) (N := 6) hx hb hwl inlX6 tyX6 tyX6_ok hown (hts (.classLink RL 7 RX6) (by decide +kernel)) (hts (.instantiable RX6 6) (by decide +kernel)) (hts (.initialized RX6) (by decide +kernel)) hK hP hD hS hA rfl (by decide +kernel) (Nat.le_of_ble_eq_true rfl) (Nat.le_of_ble_eq_true rfl) dL_0 (fun h6 H hP hD hS => ?_)
  have hP : va_P D vwCl (([] : va_W) ++ [(h6, (.inr (6, [.null, .null, .null, .null, .null, .null]) : va_E))]) H := hP
  have hD : va_D (a_A s.heap.size) (([] : va_W) ++ [(h6, (.inr (6, [.null, .null, .null, .null, .null, .null]) : va_E))]) := hD
  refine W.widen (k := 1) (n := 6) (by decide) (by decide) ?_
  refine lv_dup hx hb dL_3 rfl ?_
  have hlast0 : (([] : va_W) ++ [(h6, (.inr (6, [.null, .null, .null, .null, .null, .null]) : va_E))])[0]? = some (h6, (.inr (6, [.null, .null, .null, .null, .null, .null]) : va_E)) := rfl
  refine b_callv (va_runI (As := []) (rest := [.ref h6]) ⟨hx, hb, hml, hown, hwl⟩ (c_X6 l s.heap.size D (cI, cZ, cS, fun c _ => a0 c) (b_m0 L xs) h6 H.size) (cwI 0 hwl gL_law_X6_init rfl rfl rfl (hts (.initialized RX6) (by decide +kernel)) (hts (.methodLink RL 9 yX6_init) (by decide +kernel)) (hts (.instanceMethod yX6_init) (by decide +kernel)) rfl (by decide +kernel) ⟨Nat.le_of_ble_eq_true rfl, Nat.le_of_ble_eq_true rfl⟩) (b_pres hSt hTb hS hAb hP (hD.2 0 _ hlast0)) rfl rfl hl.1 rfl (lv_room (Nat.le_of_ble_eq_true rfl)) dL_4 ⟨Nat.le_of_ble_eq_true rfl, Nat.le_of_ble_eq_true rfl⟩) rfl hP hD hS hA (fun ad H locs hP hD hS => ?_)
  refine W.widen (k := 277) (n := 3007) (by decide) (by decide) ?_
  refine lv_astore_n (lv' := [(1, .ref h6), (0, .ref b)]) hx hb dL_7 rfl hl (by decide) rfl (fun ls hl => ?_)
  refine va_new (ci := 7) (fs := [.null, .null, .null, .null, .null, .int 0, .int 0, .null, .int 0, .int 0, .int 0, .int 0, .int 0]) (C := RX7) (T := TX7) (N := 13) hx hb hwl inlX7 tyX7 tyX7_ok hown (hts (.classLink RL 10 RX7) (by decide +kernel)) (hts (.instantiable RX7 13) (by decide +kernel)) (hts (.initialized RX7) (by decide +kernel)) hK hP hD hS hA rfl (by decide +kernel) (Nat.le_of_ble_eq_true rfl) (Nat.le_of_ble_eq_true rfl) dL_8 (fun h7 H hP hD hS => ?_)
  refine W.widen (k := 278) (n := 3020) (by decide) (by decide) ?_
  refine lv_dup hx hb dL_11 rfl ?_
  have hlast := b_mid (([] : va_W) ++ b_wX6 (b_m0 L xs) (cI, cZ, cS, fun c _ => a0 c) h6 ad) [(h7, (.inr (7, [.null, .null, .null, .null, .null, .int 0, .int 0, .null, .int 0, .int 0, .int 0, .int 0, .int 0]) : va_E))] 0 rfl
  refine b_callv (va_runI (As := []) (rest := [.ref h7]) ⟨hx, hb, hml, hown, hwl⟩ (c_X7 l s.heap.size D (cI, cZ, cS, fun c _ => a0 c) (b_m0 L xs) h7 H.size) (cwI 0 hwl gL_law_X7_init rfl rfl rfl (hts (.initialized RX7) (by decide +kernel)) (hts (.methodLink RL 12 yX7_init) (by decide +kernel)) (hts (.instanceMethod yX7_init) (by decide +kernel)) rfl (by decide +kernel) ⟨Nat.le_of_ble_eq_true rfl, Nat.le_of_ble_eq_true rfl⟩) (b_pres hSt hTb hS hAb (fun k x hx => by
    have hz : k < 1 := (List.getElem?_eq_some_iff.mp hx).1
    rw [show k = 0 by omega] at hx
    cases hx
    exact hP _ _ hlast) (hD.2 _ _ hlast)) rfl rfl hl.1 rfl (lv_room (Nat.le_of_ble_eq_true rfl)) dL_12 ⟨Nat.le_of_ble_eq_true rfl, Nat.le_of_ble_eq_true rfl⟩) rfl hP hD hS hA (fun f H locs hP hD hS => ?_)
  refine W.widen (k := 284) (n := 5478) (by decide) (by decide) ?_
  refine lv_astore_n (lv' := [(2, .ref h7), (1, .ref h6), (0, .ref b)]) hx hb dL_15 rfl hl (by decide) rfl (fun ls hl => ?_)
  refine lv_iconst (v := 0) hx hb dL_16 (by decide) ?_
  refine lv_istore_n (lv' := [(3, .int 0), (2, .ref h7), (1, .ref h6), (0, .ref b)]) hx hb dL_17 rfl hl (by decide) rfl (fun ls hl => ?_)
  have hP : va_P D vwCl (b_wX6 (b_m0 L xs) (cI, cZ, cS, fun c _ => a0 c) h6 ad ++ b_wX7 (cI, cZ, cS, fun c _ => a0 c) h7 f) H := hP
  have hD : va_D (a_A s.heap.size) (b_wX6 (b_m0 L xs) (cI, cZ, cS, fun c _ => a0 c) h6 ad ++ b_wX7 (cI, cZ, cS, fun c _ => a0 c) h7 f) := hD
  rw [b_ws_all L xs cI cZ cS (fun c _ => a0 c) ad h6 h7 f a0] at hP hD
  have hSt1 : a_Sta s.heap.size D (cI, cZ, cS, b_ad h6 h7 ad f a0) (b_m0 L xs) s := by
    obtain ⟨s1, s2, s3, s4⟩ := hSt
    refine ⟨s1, fun c q1 q2 => ?_, ?_, s4⟩
    · show va_Z "VacantAir" (a_sn c) "[I" (.ref (b_ad h6 h7 ad f a0 c 0)) (a_A s.heap.size) s s.heap ∧ va_T .int (b_ad h6 h7 ad f a0 c 0) (a_kd c).2 (fun j => .int (b_m0 L xs c 0 j)) (a_A s.heap.size) s s.heap
      rw [b_ad_hi q1]
      exact s2 c q1 q2
    · show va_X (b_ad h6 h7 ad f a0 46 0) _ _ s s.heap ∧ b_ad h6 h7 ad f a0 46 0 < s.heap.size ∧ _
      rw [b_ad_hi (by omega)]
      exact s3
  obtain ⟨n, r, m', hrun, hq⟩ := law_loop (Q := fun v _ => v = 1) (m0 := b_m0 L xs) (L := L) (nI_clamp (by omega)) hL (fun _ => rfl) (L + 1) 0 (b_m0 L xs) (by omega) (by omega) (b_sim L xs) (fun _ _ => rfl)
  have hn0 : nI (7 * 0) = 0 := nI_0
  rw [hn0] at hrun
  have hLS : a_LS (cI, cZ, cS, b_ad h6 h7 ad f a0) [some (.inr (46, 0)), some (.inr (27, 0)), some (.inr (34, 0)), some (.inl 0)] ls 4 := by
    refine ⟨hl.1, hl.2.1, by decide, fun i v hi => ?_⟩
    match i, hi with
    | 0, hi =>
      cases hi
      have h := hl.2.2 (0, .ref b) (by simp)
      refine ⟨?_, Or.inr ⟨by omega, by omega, rfl⟩⟩
      show ls[0]? = some (.val (.ref (b_ad h6 h7 ad f a0 46 0)))
      rw [b_ad_hi (by omega), ha0]
      exact h
    | 1, hi =>
      cases hi
      exact ⟨hl.2.2 (1, .ref h6) (by simp), Or.inr ⟨by omega, by omega, rfl⟩⟩
    | 2, hi =>
      cases hi
      exact ⟨hl.2.2 (2, .ref h7) (by simp), Or.inr ⟨by omega, by omega, rfl⟩⟩
    | 3, hi =>
      cases hi
      exact ⟨hl.2.2 (3, .int 0) (by simp), trivial⟩
    | i + 4, hi => simp at hi
  refine a_sound l s.heap.size D (cI, cZ, cS, b_ad h6 h7 ad f a0) n 175 18 _ [] (b_m0 L xs) r m' hrun p e room_1 s m #[Value.ref b] below meth c 284 5478 _ a_m175 b_mt175 hx hb hml hown hwl ⟨Nat.le_of_ble_eq_true rfl, Nat.le_of_ble_eq_true rfl, Nat.le_of_ble_eq_true rfl, Nat.le_of_ble_eq_true rfl⟩ hSt1 H locs ⟨hP, hD⟩ hS ls hLS (fun v h9 => absurd h9 List.not_mem_nil) ?_
  intro H1 locs1 ls1 pc1 ins st1 hd hret hD1 hS1 hm1
  obtain ⟨rfl, rfl⟩ := b_ret hret hq
  refine va_forget (fun q h9 => hS1.2.2 q h9) ?_
  refine W.widen (k := 600000) (n := 7302250) (Nat.le_of_ble_eq_true rfl) (Nat.le_of_ble_eq_true rfl) ?_
  exact lw_ret hx hb hr hlocks hd
