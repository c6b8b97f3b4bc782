/-! THE CLAIM OUT OF ONE WALK OF THE LAW'S BODY. Your part is whole_start (and what it stands on); all else here is the same for every law, but numbers. -/
def R_law : String := "VacantAirLaw"
def lw_P (b : Addr) (xs : List Int32) (args : Array Value) (s : State) : Prop := args = #[.ref b] ∧ s.IntsAt b xs ∧ xs.length ≤ 260 ∧ (Jvm.Cond.and given_1 narrow_1).before args s = true
def lw_Q (_ : Array Value) (s : State) (o : Outcome) (t : State) : Prop := o = .returned (some (.int 1)) ∧ Framed s o t [] 600000 7302250
def lw_Z (below : List Frame) (a : Array Value) (s : State) : State → Prop := fun t => ∃ o, t.status = .running ∧ Ended t below o ∧ lw_Q a s o t
/-- the law's own end, with 1 on the stack, nothing written that was there before, its room as the claim has it -/
theorem lw_ret {p : Program} {l : Launch} {e : Env} {s : State} {m : MethodId} {below : List Frame} {meth : Method} {c : Code} {b : Nat} (hx : p.tables.exec = Jvm.exec) (hb : c.code = code) (hr : meth.sig.returnType = ret) (hlocks : meth.locks = false) {pc : Nat} {H : Heap} {ls : Array Slot} (hdg : decode code pc = .ok (.ireturn, 1)) : W p l e room_1 s m #[Value.ref b] below meth c H [] 600000 7302250 (lw_Z below #[Value.ref b] s) (F0 m pc ls [.int 1]) := by
  intro T hT X
  obtain ⟨fs, hret, hrun, hended, hW, hframe⟩ := X.leave (v := some (.int 1)) (hlocks := hlocks) (fun h => by rw [hr] at h; cases h)
  have hmeth' : T.vm.method? m = some meth := X.method'
  refine ⟨T.setFrames fs, ?_, .returned (some (.int 1)), hrun, hended, rfl, ⟨_, rfl⟩, hW, hframe⟩
  jvm_step X.here [X.here.top, hx, hb, hdg, hmeth', hr, ret, narrow_b1]
  (try refine ⟨rfl, ?_⟩); (try refine ⟨rfl, ?_⟩)
  first | (intro acts; rw [hret _ acts rfl rfl rfl]) | rw [hret _ _ rfl rfl rfl]
  exact Steps.refl _
/-- what holds at the law's entry: the machine, the code, the tables' words (any of lw_tbl by 'hts w (by decide +kernel)'), the script of L ints xs at the cell b, what the Statement gives of the start (any of its parts by flat_of_before) -/
def lw_At (p : Program) (s : State) (m : MethodId) (meth : Method) (c : Code) (b L : Nat) (xs : Nat → Int32) : Prop :=
  p.tables.exec = Jvm.exec ∧ c.code = code ∧ meth.sig.returnType = ret ∧ c.maxLocals = 11 ∧ s.vm.findClass R_law = some m.cls ∧ (∀ w ∈ lw_tbl, w.before #[Value.ref b] s = true) ∧ va_X b L xs s s.heap ∧ b < s.heap.size ∧ meth.locks = false ∧ (Jvm.Cond.and given_1 narrow_1).before #[Value.ref b] s = true
theorem dL_0 : decode code 0 = .ok (.new 43, 3) := by decide +kernel
theorem dL_3 : decode code 3 = .ok (.dup, 1) := by decide +kernel
theorem dL_4 : decode code 4 = .ok (.invokespecial 121, 3) := by decide +kernel
theorem dL_7 : decode code 7 = .ok (.astore_n 1, 1) := by decide +kernel
theorem dL_8 : decode code 8 = .ok (.bipush 8, 2) := by decide +kernel
theorem dL_10 : decode code 10 = .ok (.newarray .int, 2) := by decide +kernel
theorem dL_12 : decode code 12 = .ok (.astore_n 2, 1) := by decide +kernel
theorem dL_13 : decode code 13 = .ok (.bipush 40, 2) := by decide +kernel
theorem dL_15 : decode code 15 = .ok (.newarray .int, 2) := by decide +kernel
theorem dL_17 : decode code 17 = .ok (.astore_n 3, 1) := by decide +kernel
theorem dL_18 : decode code 18 = .ok (.bipush 56, 2) := by decide +kernel
theorem dL_20 : decode code 20 = .ok (.newarray .int, 2) := by decide +kernel
theorem dL_22 : decode code 22 = .ok (.astore 4, 2) := by decide +kernel
theorem dL_24 : decode code 24 = .ok (.bipush 64, 2) := by decide +kernel
theorem dL_26 : decode code 26 = .ok (.newarray .int, 2) := by decide +kernel
theorem dL_28 : decode code 28 = .ok (.astore 5, 2) := by decide +kernel
theorem dL_30 : decode code 30 = .ok (.bipush 48, 2) := by decide +kernel
theorem dL_32 : decode code 32 = .ok (.newarray .int, 2) := by decide +kernel
theorem dL_34 : decode code 34 = .ok (.astore 6, 2) := by decide +kernel
theorem dL_36 : decode code 36 = .ok (.bipush 48, 2) := by decide +kernel
theorem dL_38 : decode code 38 = .ok (.newarray .int, 2) := by decide +kernel
theorem dL_40 : decode code 40 = .ok (.astore 7, 2) := by decide +kernel
theorem b_mt115 : a_mt[115]? = some a_m115 := by
  have h : a_mtl.length = 115 := by decide +kernel
  unfold a_mt
  rw [List.getElem?_append_right (by omega), h]
  rfl
theorem b_tab {s : State} {args : Array Value} {nm : String} {vs : List Int32} {N : Nat} (hN : N < 2 ^ 31) (hl : (Cond.laysStatic "VacantAir" nm "[I").before args s = true) (hini : (Cond.initialized "VacantAir").before args s = true) (harr : (Cond.arrayOf (.static "VacantAir" nm "[I") .int).before args s = true) (hlen : (Cond.eq (.length (.static "VacantAir" nm "[I")) (.int (Int32.ofNat N))).before args s = true) (hel : ∀ j : Nat, j < N → (Cond.eq (.elem (.static "VacantAir" nm "[I") (.int (Int32.ofNat j))) (.int (b_row vs j))).before args s = true) : ∃ t : Nat, va_Z "VacantAir" nm "[I" (.ref t) (a_A s.heap.size) s s.heap ∧ va_T .int t N (fun j => .int (b_row vs j)) (a_A s.heap.size) s s.heap := by
  have hA : ∀ a : Nat, a < s.heap.size → ¬ a_A s.heap.size a := fun a h h2 => absurd h (Nat.not_lt.mpr h2)
  obtain ⟨t, ht, hT⟩ := va_Tof (f := fun j => .int (b_row vs j)) (A := a_A s.heap.size) hN harr (va_eqt hlen) (fun j hj => va_eqt (hel j hj)) hA
  exact ⟨t, va_Zof hl hini ht hA, hT⟩
theorem b_known {p : Program} {s : State} {m : MethodId} {meth : Method} {c : Code} {b L : Nat} {xs : Nat → Int32} (C0 : lw_At p s m meth c b L xs) : ∃ (D : va_G) (cI cZ cS : ClassId), va_K D vwCl [(cI, .int), (cZ, .boolean), (cS, .object "VacantAir$State")] s := by
  obtain ⟨-, -, -, -, -, hts, -⟩ := id C0
  obtain ⟨c0, i0, k0⟩ := u_known (C := RX0) (T := TX0) (N := 8) (n := 8) hts inX0 (hts (.instantiable RX0 8) (by decide +kernel))
  obtain ⟨c1, i1, k1⟩ := u_known (C := RX1) (T := TX1) (N := 11) (n := 11) hts inX1 (hts (.instantiable RX1 11) (by decide +kernel))
  obtain ⟨c2, i2, k2⟩ := u_known (C := RX2) (T := TX2) (N := 8) (n := 8) hts inX2 (hts (.instantiable RX2 8) (by decide +kernel))
  obtain ⟨c3, i3, k3⟩ := u_known (C := RX3) (T := TX3) (N := 3) (n := 3) hts inX3 (hts (.instantiable RX3 3) (by decide +kernel))
  obtain ⟨c4, i4, k4⟩ := u_known (C := RX4) (T := TX4) (N := 6) (n := 6) hts inX4 (hts (.instantiable RX4 6) (by decide +kernel))
  obtain ⟨c5, i5, k5⟩ := u_known (C := RX5) (T := TX5) (N := 6) (n := 6) hts inX5 (hts (.instantiable RX5 6) (by decide +kernel))
  obtain ⟨c6, i6, k6⟩ := u_known (C := RX6) (T := TX6) (N := 6) (n := 6) hts inX6 (hts (.instantiable RX6 6) (by decide +kernel))
  obtain ⟨cI, kI, pI, e1, e2, e3⟩ := Cond.arrayClass_spec (hts (.arrayClass .int) (by decide +kernel))
  obtain ⟨cZ, kZ, pZ, z1, z2, z3⟩ := Cond.arrayClass_spec (hts (.arrayClass .boolean) (by decide +kernel))
  obtain ⟨comp, cS, kS, f1, f2, f3, f4, f5⟩ := Cond.arrayOver_spec (hts (.arrayOver (.object "VacantAir$State")) (by decide +kernel))
  refine ⟨(fun k => [c0, c1, c2, c3, c4, c5, c6].getD k 0, fun k => [i0, i1, i2, i3, i4, i5, i6].getD k (fun _ => 0)), cI, cZ, cS, fun k q hq => ?_, fun k q hq => ?_⟩
  · match k, hq with
    | 0, hq => cases hq; exact k0
    | 1, hq => cases hq; exact k1
    | 2, hq => cases hq; exact k2
    | 3, hq => cases hq; exact k3
    | 4, hq => cases hq; exact k4
    | 5, hq => cases hq; exact k5
    | 6, hq => cases hq; exact k6
    | k + 7, hq => simp [vwCl] at hq
  · match k, hq with
    | 0, hq => cases hq; exact ⟨fun n z => ⟨fun k h => (by cases h), kI, e2, pI, e3⟩, e1⟩
    | 1, hq => cases hq; exact ⟨fun n z => ⟨fun k h => (by cases h), kZ, z2, pZ, z3⟩, z1⟩
    | 2, hq => cases hq; exact ⟨fun n z => ⟨fun k h => (by cases h), kS, f3, comp, f4⟩, kS, comp, f3, f4, f1, f5⟩
    | k + 3, hq => simp at hq
theorem b_nst : ∀ w ∈ a_nst, w ∈ lw_tbl := by decide +kernel
theorem b_tbs : ∀ w ∈ b_tb, w ∈ lw_tbl := by decide +kernel
theorem b_nst_on : ∀ w ∈ a_nst, w.onTables = true := fun w hw => List.all_eq_true.mp (show a_nst.all (fun w => w.onTables) = true by decide +kernel) w hw
theorem b_tbs_on : ∀ w ∈ b_tb, w.onTables = true := fun w hw => List.all_eq_true.mp (show b_tb.all (fun w => w.onTables) = true by decide +kernel) w hw
theorem b_start {p : Program} {s : State} {m : MethodId} {meth : Method} {c : Code} {b L : Nat} {xs : Nat → Int32} (hL : L ≤ 260) (C0 : lw_At p s m meth c b L xs) : ∃ (D : va_G) (cI cZ cS : ClassId) (a0 : Nat → Nat), a0 46 = b ∧ a_Sta s.heap.size D (cI, cZ, cS, fun c _ => a0 c) (b_m0 L xs) s ∧ b_Tab s := by
  obtain ⟨D, cI, cZ, cS, hK⟩ := b_known C0
  obtain ⟨-, -, -, -, -, hts, hX, hbl, -, hgv⟩ := id C0
  have hf := flat_of_before _ hgv
  have hini := hts (.initialized "VacantAir") (by decide +kernel)
  have el : ∀ (nm : String) (vs : List Int32) (N : Nat), (∀ j : Nat, j < N → Cond.eq (.elem (.static "VacantAir" nm "[I") (.int (Int32.ofNat j))) (.int (b_row vs j)) ∈ flatC (Jvm.Cond.and given_1 narrow_1)) → ∀ j : Nat, j < N → (Cond.eq (.elem (.static "VacantAir" nm "[I") (.int (Int32.ofNat j))) (.int (b_row vs j))).before #[Value.ref b] s = true := fun _ _ _ h j hj => hf _ (h j hj)
  obtain ⟨t1, z1, y1⟩ := b_tab (nm := "RADII") (vs := [4, 9, 16, 26, 40]) (N := 5) (by decide) (hts _ (by decide +kernel)) hini (hf _ (by decide +kernel)) (hf _ (by decide +kernel)) (el _ _ _ (by decide +kernel))
  obtain ⟨t2, z2, y2⟩ := b_tab (nm := "REACHES") (vs := [1, 3, 6, 10]) (N := 4) (by decide) (hts _ (by decide +kernel)) hini (hf _ (by decide +kernel)) (hf _ (by decide +kernel)) (el _ _ _ (by decide +kernel))
  obtain ⟨t3, z3, y3⟩ := b_tab (nm := "FIRST_VALUES") (vs := [40, 4, 3]) (N := 3) (by decide) (hts _ (by decide +kernel)) hini (hf _ (by decide +kernel)) (hf _ (by decide +kernel)) (el _ _ _ (by decide +kernel))
  obtain ⟨t4, z4, y4⟩ := b_tab (nm := "LEAST_VALUES") (vs := [0, 1, 0]) (N := 3) (by decide) (hts _ (by decide +kernel)) hini (hf _ (by decide +kernel)) (hf _ (by decide +kernel)) (el _ _ _ (by decide +kernel))
  obtain ⟨t5, z5, y5⟩ := b_tab (nm := "GREATEST_VALUES") (vs := [100, 12, 20]) (N := 3) (by decide) (hts _ (by decide +kernel)) hini (hf _ (by decide +kernel)) (hf _ (by decide +kernel)) (el _ _ _ (by decide +kernel))
  refine ⟨D, cI, cZ, cS, fun c => if c = 41 then t1 else if c = 42 then t2 else if c = 43 then t3 else if c = 44 then t4 else if c = 45 then t5 else b, rfl, ⟨hK, fun c q1 q2 => ?_, ⟨?_, hbl, Nat.le_refl _⟩, fun w hw => va_Nw.of (b_nst_on w hw) (hts w (b_nst w hw))⟩, fun w hw => va_Nw.of (b_tbs_on w hw) (hts w (b_tbs w hw)), va_AO.of (hts (.arrayOver (.object "VacantAir$State")) (by decide +kernel))⟩
  · rcases (show c = 41 ∨ c = 42 ∨ c = 43 ∨ c = 44 ∨ c = 45 by omega) with rfl | rfl | rfl | rfl | rfl
    · exact ⟨z1, y1⟩
    · exact ⟨z2, y2⟩
    · exact ⟨z3, y3⟩
    · exact ⟨z4, y4⟩
    · exact ⟨z5, y5⟩
  · show va_X b (nI L).toNatClampNeg xs s s.heap
    rw [nI_clamp (by omega)]
    exact hX
theorem b_ret {ins : Instr} {st : List aV} {r : Option aV} {m' : aM} (h : a_ret (some .boolean) ins st = some r) (hq : qI (fun v _ => v = 1) r m') : ins = .ireturn ∧ st = [.inl 1] := by
  unfold a_ret at h
  split at h
  · rename_i e; cases e
  · rename_i v _
    obtain ⟨-, h⟩ := a_if_i h
    cases h
    have hv : v = 1 := hq
    subst hv
    exact ⟨rfl, rfl⟩
  · rename_i e; cases e
  · cases h
set_option maxHeartbeats 8000000 in
set_option maxRecDepth 100000 in
/-- from the entry, for every script of at most 260 ints, the law comes to its end with true -/
theorem whole_start {p : Program} {e : Env} {s : State} {m : MethodId} {below : List Frame} {meth : Method} {c : Code} (l : Launch) (hflags : l.flags = flags0) {b L : Nat} {xs : Nat → Int32} (hL : L ≤ 260) (C0 : lw_At p s m meth c b L xs) : W p l e room_1 s m #[Value.ref b] below meth c s.heap [] 0 0 (lw_Z below #[Value.ref b] s) (entryFrame m ([Value.ref b] : List Value).toArray 11) := by
  obtain ⟨hx, hb, hr, hml, hown, hts, hX, hbl, hlocks, hgv⟩ := id C0
  have hown : s.vm.findClass RL = some m.cls := hown
  obtain ⟨D, cI, cZ, cS, a0, ha0, hSt, hTb⟩ := b_start hL C0
  have hwl : ∀ w ∈ wsL_law, w.before #[Value.ref b] s = true := fun w hw => hts w (wsL_law_in w hw)
  have hK := hSt.1
  have hA : ∀ q : Nat, s.heap.size ≤ q → a_A s.heap.size q := fun _ h => h
  have hAb : ∀ q : Nat, a_A s.heap.size q → s.heap.size ≤ q := fun _ h => h
  have hS : va_S (a_A s.heap.size) s.heap s.heap [] := va_S.rf
  have hP : va_P D vwCl ([] : va_W) s.heap := fun k q h => by simp at h
  have hD : va_D (a_A s.heap.size) ([] : va_W) := ⟨fun i j p q h => by simp at h, fun k q h => by simp at h⟩
  have hl := lv_entry ([.ref b]) (n := 11) (Nat.le_of_ble_eq_true rfl)
  rw [lg_entry_eq]
  generalize (lg_sl ([.ref b]) ++ List.replicate (11 - (lg_sl ([.ref b])).length) Slot.unset).toArray = ls at hl ⊢
  have hl : lv_has ls 11 [(0, .ref b)] := hl
  refine va_new (ci := 6) (fs := [.null, .null, .null, .null, .null, .null]) (C := RX6) (T := TX6) (N := 6) hx hb hwl inlX6 tyX6 tyX6_ok hown (hts (.classLink RL 43 RX6) (by decide +kernel)) (hts (.instantiable RX6 6) (by decide +kernel)) (hts (.initialized RX6) (by decide +kernel)) hK hP hD hS hA rfl (by decide +kernel) (Nat.le_of_ble_eq_true rfl) (Nat.le_of_ble_eq_true rfl) dL_0 (fun h6 H hP hD hS => ?_)
  have hP : va_P D vwCl (([] : va_W) ++ [(h6, (.inr (6, [.null, .null, .null, .null, .null, .null]) : va_E))]) H := hP
  have hD : va_D (a_A s.heap.size) (([] : va_W) ++ [(h6, (.inr (6, [.null, .null, .null, .null, .null, .null]) : va_E))]) := hD
  refine W.widen (k := 1) (n := 6) (by decide) (by decide) ?_
  refine lv_dup hx hb dL_3 rfl ?_
  have hlast0 : (([] : va_W) ++ [(h6, (.inr (6, [.null, .null, .null, .null, .null, .null]) : va_E))])[0]? = some (h6, (.inr (6, [.null, .null, .null, .null, .null, .null]) : va_E)) := rfl
  refine b_callv (va_runI (As := []) (rest := [.ref h6]) ⟨hx, hb, hml, hown, hwl⟩ (c_X6 l s.heap.size D (cI, cZ, cS, fun c _ => a0 c) (b_m0 L xs) h6 H.size) (cwI 0 hwl gL_law_X6_init rfl rfl rfl (hts (.initialized RX6) (by decide +kernel)) (hts (.methodLink RL 121 yX6_init) (by decide +kernel)) (hts (.instanceMethod yX6_init) (by decide +kernel)) rfl (by decide +kernel) ⟨Nat.le_of_ble_eq_true rfl, Nat.le_of_ble_eq_true rfl⟩) (b_pres hSt hTb hS hAb hP (hD.2 0 _ hlast0)) rfl rfl hl.1 rfl (lv_room (Nat.le_of_ble_eq_true rfl)) dL_4 ⟨Nat.le_of_ble_eq_true rfl, Nat.le_of_ble_eq_true rfl⟩) rfl hP hD hS hA (fun ad H locs hP hD hS => ?_)
  refine W.widen (k := 277) (n := 3007) (by decide) (by decide) ?_
  refine lv_astore_n (lv' := [(1, .ref h6), (0, .ref b)]) hx hb dL_7 rfl hl (by decide) rfl (fun ls hl => ?_)
  have hP : va_P D vwCl (b_wX6 (b_m0 L xs) (cI, cZ, cS, fun c _ => a0 c) h6 ad) H := hP
  have hD : va_D (a_A s.heap.size) (b_wX6 (b_m0 L xs) (cI, cZ, cS, fun c _ => a0 c) h6 ad) := hD
  refine lv_bipush (v := 8) hx hb dL_8 (by decide) ?_
  refine b_newi hx hb (hts (.arrayClass .int) (by decide +kernel)) hK 0 rfl hP hD hS hA (N := 8) (by decide) (by decide) (Nat.le_of_ble_eq_true rfl) (Nat.le_of_ble_eq_true rfl) (Nat.le_of_ble_eq_true rfl) dL_10 (fun q34 H hP hD hS => ?_)
  refine W.widen (k := 278) (n := 3015) (by decide) (by decide) ?_
  refine lv_astore_n (lv' := [(2, .ref q34), (1, .ref h6), (0, .ref b)]) hx hb dL_12 rfl hl (by decide) rfl (fun ls hl => ?_)
  refine lv_bipush (v := 40) hx hb dL_13 (by decide) ?_
  refine b_newi hx hb (hts (.arrayClass .int) (by decide +kernel)) hK 0 rfl hP hD hS hA (N := 40) (by decide) (by decide) (Nat.le_of_ble_eq_true rfl) (Nat.le_of_ble_eq_true rfl) (Nat.le_of_ble_eq_true rfl) dL_15 (fun q35 H hP hD hS => ?_)
  refine W.widen (k := 279) (n := 3055) (by decide) (by decide) ?_
  refine lv_astore_n (lv' := [(3, .ref q35), (2, .ref q34), (1, .ref h6), (0, .ref b)]) hx hb dL_17 rfl hl (by decide) rfl (fun ls hl => ?_)
  refine lv_bipush (v := 56) hx hb dL_18 (by decide) ?_
  refine b_newi hx hb (hts (.arrayClass .int) (by decide +kernel)) hK 0 rfl hP hD hS hA (N := 56) (by decide) (by decide) (Nat.le_of_ble_eq_true rfl) (Nat.le_of_ble_eq_true rfl) (Nat.le_of_ble_eq_true rfl) dL_20 (fun q36 H hP hD hS => ?_)
  refine W.widen (k := 280) (n := 3111) (by decide) (by decide) ?_
  refine lv_astore (lv' := [(4, .ref q36), (3, .ref q35), (2, .ref q34), (1, .ref h6), (0, .ref b)]) hx hb dL_22 hl (by decide) rfl (fun ls hl => ?_)
  refine lv_bipush (v := 64) hx hb dL_24 (by decide) ?_
  refine b_newi hx hb (hts (.arrayClass .int) (by decide +kernel)) hK 0 rfl hP hD hS hA (N := 64) (by decide) (by decide) (Nat.le_of_ble_eq_true rfl) (Nat.le_of_ble_eq_true rfl) (Nat.le_of_ble_eq_true rfl) dL_26 (fun q37 H hP hD hS => ?_)
  refine W.widen (k := 281) (n := 3175) (by decide) (by decide) ?_
  refine lv_astore (lv' := [(5, .ref q37), (4, .ref q36), (3, .ref q35), (2, .ref q34), (1, .ref h6), (0, .ref b)]) hx hb dL_28 hl (by decide) rfl (fun ls hl => ?_)
  refine lv_bipush (v := 48) hx hb dL_30 (by decide) ?_
  refine b_newi hx hb (hts (.arrayClass .int) (by decide +kernel)) hK 0 rfl hP hD hS hA (N := 48) (by decide) (by decide) (Nat.le_of_ble_eq_true rfl) (Nat.le_of_ble_eq_true rfl) (Nat.le_of_ble_eq_true rfl) dL_32 (fun q38 H hP hD hS => ?_)
  refine W.widen (k := 282) (n := 3223) (by decide) (by decide) ?_
  refine lv_astore (lv' := [(6, .ref q38), (5, .ref q37), (4, .ref q36), (3, .ref q35), (2, .ref q34), (1, .ref h6), (0, .ref b)]) hx hb dL_34 hl (by decide) rfl (fun ls hl => ?_)
  refine lv_bipush (v := 48) hx hb dL_36 (by decide) ?_
  refine b_newi hx hb (hts (.arrayClass .int) (by decide +kernel)) hK 0 rfl hP hD hS hA (N := 48) (by decide) (by decide) (Nat.le_of_ble_eq_true rfl) (Nat.le_of_ble_eq_true rfl) (Nat.le_of_ble_eq_true rfl) dL_38 (fun q39 H hP hD hS => ?_)
  refine W.widen (k := 283) (n := 3271) (by decide) (by decide) ?_
  refine lv_astore (lv' := [(7, .ref q39), (6, .ref q38), (5, .ref q37), (4, .ref q36), (3, .ref q35), (2, .ref q34), (1, .ref h6), (0, .ref b)]) hx hb dL_40 hl (by decide) rfl (fun ls hl => ?_)
  simp only [List.append_assoc, List.cons_append, List.nil_append] at hP hD
  have hP : va_P D vwCl (b_wX6 (b_m0 L xs) (cI, cZ, cS, fun c _ => a0 c) h6 ad ++ [(q34, .inl (cI, (8, .inl (fun _ => 0)))), (q35, .inl (cI, (40, .inl (fun _ => 0)))), (q36, .inl (cI, (56, .inl (fun _ => 0)))), (q37, .inl (cI, (64, .inl (fun _ => 0)))), (q38, .inl (cI, (48, .inl (fun _ => 0)))), (q39, .inl (cI, (48, .inl (fun _ => 0))))]) H := hP
  have hD : va_D (a_A s.heap.size) (b_wX6 (b_m0 L xs) (cI, cZ, cS, fun c _ => a0 c) h6 ad ++ [(q34, .inl (cI, (8, .inl (fun _ => 0)))), (q35, .inl (cI, (40, .inl (fun _ => 0)))), (q36, .inl (cI, (56, .inl (fun _ => 0)))), (q37, .inl (cI, (64, .inl (fun _ => 0)))), (q38, .inl (cI, (48, .inl (fun _ => 0)))), (q39, .inl (cI, (48, .inl (fun _ => 0))))]) := hD
  have hall := b_ws_all L xs cI cZ cS (fun c _ => a0 c) ad h6 (fun i => [q34, q35, q36, q37, q38, q39].getD (i - 34) 0) a0
  have hall : b_wX6 (b_m0 L xs) (cI, cZ, cS, fun c _ => a0 c) h6 ad ++ [(q34, .inl (cI, (8, .inl (fun _ => 0)))), (q35, .inl (cI, (40, .inl (fun _ => 0)))), (q36, .inl (cI, (56, .inl (fun _ => 0)))), (q37, .inl (cI, (64, .inl (fun _ => 0)))), (q38, .inl (cI, (48, .inl (fun _ => 0)))), (q39, .inl (cI, (48, .inl (fun _ => 0))))] = a_ws (cI, cZ, cS, b_ad h6 ad (fun i => [q34, q35, q36, q37, q38, q39].getD (i - 34) 0) a0) (b_m0 L xs) := hall
  rw [hall] at hP hD
  have hSt1 : a_Sta s.heap.size D (cI, cZ, cS, b_ad h6 ad (fun i => [q34, q35, q36, q37, q38, q39].getD (i - 34) 0) a0) (b_m0 L xs) s := by
    obtain ⟨s1, s2, s3, s4⟩ := hSt
    refine ⟨s1, fun c q1 q2 => ?_, ?_, s4⟩
    · show va_Z "VacantAir" (a_sn c) "[I" (.ref (b_ad h6 ad (fun i => [q34, q35, q36, q37, q38, q39].getD (i - 34) 0) a0 c 0)) (a_A s.heap.size) s s.heap ∧ va_T .int (b_ad h6 ad (fun i => [q34, q35, q36, q37, q38, q39].getD (i - 34) 0) a0 c 0) (a_kd c).2 (fun j => .int (b_m0 L xs c 0 j)) (a_A s.heap.size) s s.heap
      rw [b_ad_hi q1]
      exact s2 c q1 q2
    · show va_X (b_ad h6 ad (fun i => [q34, q35, q36, q37, q38, q39].getD (i - 34) 0) a0 46 0) _ _ s s.heap ∧ b_ad h6 ad (fun i => [q34, q35, q36, q37, q38, q39].getD (i - 34) 0) a0 46 0 < s.heap.size ∧ _
      rw [b_ad_hi (by omega)]
      exact s3
  obtain ⟨n, r, m', hrun, hq⟩ := b_law L xs
  have hLS : a_LS (cI, cZ, cS, b_ad h6 ad (fun i => [q34, q35, q36, q37, q38, q39].getD (i - 34) 0) a0) [some (.inr (46, 0)), some (.inr (27, 0)), some (.inr (34, 0)), some (.inr (35, 0)), some (.inr (36, 0)), some (.inr (37, 0)), some (.inr (38, 0)), some (.inr (39, 0)), none, none, none] ls 11 := by
    refine ⟨hl.1, hl.2.1, by decide, fun i v hi => ?_⟩
    match i, hi with
    | 0, hi =>
      cases hi
      have h := hl.2.2 (0, .ref b) (by simp)
      refine ⟨?_, Or.inr ⟨by omega, by omega, rfl⟩⟩
      show ls[0]? = some (.val (.ref (b_ad h6 ad (fun i => [q34, q35, q36, q37, q38, q39].getD (i - 34) 0) a0 46 0)))
      rw [b_ad_hi (by omega), ha0]
      exact h
    | 1, hi =>
      cases hi
      exact ⟨hl.2.2 (1, .ref h6) (by simp), Or.inr ⟨by omega, by omega, rfl⟩⟩
    | 2, hi =>
      cases hi
      exact ⟨hl.2.2 (2, .ref q34) (by simp), Or.inr ⟨by omega, by omega, rfl⟩⟩
    | 3, hi =>
      cases hi
      exact ⟨hl.2.2 (3, .ref q35) (by simp), Or.inr ⟨by omega, by omega, rfl⟩⟩
    | 4, hi =>
      cases hi
      exact ⟨hl.2.2 (4, .ref q36) (by simp), Or.inr ⟨by omega, by omega, rfl⟩⟩
    | 5, hi =>
      cases hi
      exact ⟨hl.2.2 (5, .ref q37) (by simp), Or.inr ⟨by omega, by omega, rfl⟩⟩
    | 6, hi =>
      cases hi
      exact ⟨hl.2.2 (6, .ref q38) (by simp), Or.inr ⟨by omega, by omega, rfl⟩⟩
    | 7, hi =>
      cases hi
      exact ⟨hl.2.2 (7, .ref q39) (by simp), Or.inr ⟨by omega, by omega, rfl⟩⟩
    | 8, hi => cases hi
    | 9, hi => cases hi
    | 10, hi => cases hi
    | i + 11, hi => simp at hi
  refine a_sound l s.heap.size D (cI, cZ, cS, b_ad h6 ad (fun i => [q34, q35, q36, q37, q38, q39].getD (i - 34) 0) a0) n 115 42 _ [] (b_m0 L xs) r m' hrun p e room_1 s m #[Value.ref b] below meth c 283 3271 _ a_m115 b_mt115 hx hb hml hown hwl ⟨Nat.le_of_ble_eq_true rfl, Nat.le_of_ble_eq_true rfl, Nat.le_of_ble_eq_true rfl, Nat.le_of_ble_eq_true rfl⟩ hSt1 H locs ⟨hP, hD⟩ hS ls hLS (fun v h9 => absurd h9 List.not_mem_nil) ?_
  intro H1 locs1 ls1 pc1 ins st1 hd hret hD1 hS1 hm1
  obtain ⟨rfl, rfl⟩ := b_ret hret hq
  refine va_forget (fun q h9 => hS1.2.2 q h9) ?_
  refine W.widen (k := 600000) (n := 7302250) (Nat.le_of_ble_eq_true rfl) (Nat.le_of_ble_eq_true rfl) ?_
  exact lw_ret hx hb hr hlocks hd
