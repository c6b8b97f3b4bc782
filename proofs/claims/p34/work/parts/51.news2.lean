theorem in_X0 : ∀ w ∈ u_ws RX0 TX0 8, w ∈ wsX0_init := fun w hw => List.mem_cons_of_mem _ (List.mem_append_right _ hw)
def b_wX0 (g : aG) (h0 : Nat) (f : Nat → Nat) : va_W := [(h0, .inr (0, [.ref (f 33), .int 0, .int 0, .int (-6), .int 0, .int 0, .int 0, .int 0])), (f 33, .inl (g.1, (80, .inl (fun _ => 0))))]
set_option maxHeartbeats 4000000 in
set_option maxRecDepth 100000 in
/-- ActText() -/
theorem c_X0 (l : Launch) (base : Nat) (D : va_G) (g : aG) (m0 : aM) (h0 sz : Nat) : Met l yX0_init wsX0_init ({ frames := 1, cells := 1, slots := 80, locals := 12 }) (b_Pc base D g m0 h0 (.inr (0, [.null, .int 0, .int 0, .int 0, .int 0, .int 0, .int 0, .int 0])) sz) (b_Qc D h0 (.inr (0, [.null, .int 0, .int 0, .int 0, .int 0, .int 0, .int 0, .int 0])) sz (b_wX0 g h0)) 1 80 (va_A [(h0, (.inr (0, [.null, .int 0, .int 0, .int 0, .int 0, .int 0, .int 0, .int 0])))] sz) := by
  refine Met.ofW (cc := cX0_init) (maxL := 1) (ret := none) (by decide) rfl ?_
  intro p e s m args below meth c s₁ B hml hv
  obtain ⟨rfl, hsz, hP, ⟨hSt, hTb⟩, hbh⟩ := hv
  have hx := B.exec
  have hb := B.bytes
  have hr := B.returns
  have hts := atoms_spec (ws := wsX0_init) B.pre
  have hown : s.vm.findClass RX0 = some m.cls := findClass_of_methodNamed B.named
  have hlocks := B.notSynchronized
  have hin : meth.name = "<init>" := (name_of_methodNamed B.named B.method).1
  subst hsz
  have hK := hSt.1
  have hbs : base ≤ s.heap.size := hSt.2.2.1.2.2
  have hD : va_D (va_A [(h0, (.inr (0, [.null, .int 0, .int 0, .int 0, .int 0, .int 0, .int 0, .int 0])))] s.heap.size) [(h0, (.inr (0, [.null, .int 0, .int 0, .int 0, .int 0, .int 0, .int 0, .int 0])))] := ⟨fun i j x y hx hy _ => by
    have h1 : i < 1 := (List.getElem?_eq_some_iff.mp hx).1
    have h2 : j < 1 := (List.getElem?_eq_some_iff.mp hy).1
    omega, fun k x hx => va_A.in hx⟩
  have hAb : ∀ q, va_A [(h0, (.inr (0, [.null, .int 0, .int 0, .int 0, .int 0, .int 0, .int 0, .int 0])))] s.heap.size q → base ≤ q := by
    intro q h
    rcases h with ⟨k, e2, h⟩ | h
    · have hz : k < 1 := (List.getElem?_eq_some_iff.mp h).1
      rw [show k = 0 by omega] at h
      have hh : (h0, ((.inr (0, [.null, .int 0, .int 0, .int 0, .int 0, .int 0, .int 0, .int 0])) : va_E)) = (q, e2) := Option.some.inj h
      have h3 : h0 = q := congrArg Prod.fst hh
      exact h3 ▸ hbh
    · exact Nat.le_trans hbs h
  unfold b_Qc
  generalize hAe : va_A [(h0, (.inr (0, [.null, .int 0, .int 0, .int 0, .int 0, .int 0, .int 0, .int 0])))] s.heap.size = A at hD hAb ⊢
  have hA : ∀ q : Nat, s.heap.size ≤ q → A q := fun q h => by rw [← hAe]; exact Or.inr h
  have hS : va_S A s.heap s.heap [] := va_S.rf
  have hP : va_P D vwCl [(h0, (.inr (0, [.null, .int 0, .int 0, .int 0, .int 0, .int 0, .int 0, .int 0])))] s.heap := hP
  have hl := lv_entry ([.ref h0]) (n := 1) (Nat.le_of_ble_eq_true rfl)
  rw [lg_entry_eq]
  generalize (lg_sl ([.ref h0]) ++ List.replicate (1 - (lg_sl ([.ref h0])).length) Slot.unset).toArray = ls at hl ⊢
  have hl : lv_has ls 1 [(0, .ref h0)] := hl
  refine lv_aload_n hx hb dX0_init_0 rfl (lv_at hl 0 rfl) ?_
  refine W.objInit hx hb hown (hts (.methodLink RX0 3 objectInit) (by decide +kernel)) (hts (.instanceMethod objectInit) (by decide +kernel)) (hts (.code objectInit ⟨#[0xb1]⟩ 1 none) (by decide +kernel)) rfl (by rw [hml]; exact hl.1) rfl dX0_init_1 (Nat.le_of_ble_eq_true rfl) (Nat.le_of_ble_eq_true rfl) ?_
  refine W.eq (g2 := F0 m 4 ls []) rfl ?_
  refine lv_aload_n hx hb dX0_init_4 rfl (lv_at hl 0 rfl) ?_
  refine lv_bipush (v := 80) hx hb dX0_init_5 (by decide) ?_
  refine b_newi hx hb (hts (.arrayClass .int) (by decide +kernel)) hK 0 rfl hP hD hS hA (N := 80) (by decide) (by decide) (Nat.le_of_ble_eq_true rfl) (Nat.le_of_ble_eq_true rfl) (Nat.le_of_ble_eq_true rfl) dX0_init_7 (fun q0 H hP hD hS => ?_)
  have hP : va_P D vwCl [(h0, .inr (0, [.null, .int 0, .int 0, .int 0, .int 0, .int 0, .int 0, .int 0])), (q0, .inl (g.1, (80, .inl (fun _ => 0))))] H := hP
  have hD : va_D A [(h0, .inr (0, [.null, .int 0, .int 0, .int 0, .int 0, .int 0, .int 0, .int 0])), (q0, .inl (g.1, (80, .inl (fun _ => 0))))] := hD
  refine W.widen (k := 1) (n := 80) (by decide) (by decide) ?_
  refine va_putF (D := D) (ci := 0) (v := .ref q0) (ty := .array .int) (C := RX0) (T := TX0) (N := 8) hx hb hts (fun w hw => in_X0 w hw) tyX0 tyX0_ok nmX0 hown hK hP hD hS 0 rfl rfl 0 (by decide) (hts (.fieldLink RX0 9 "VacantAir$ActText" "bytes" "[I") (by decide +kernel)) (fun _ h9 => h9) rfl hin rfl (by decide +kernel) rfl rfl (Nat.le_of_ble_eq_true rfl) dX0_init_9 (fun H locs hP hD hS => ?_)
  have hP : va_P D vwCl [(h0, .inr (0, [.ref q0, .int 0, .int 0, .int 0, .int 0, .int 0, .int 0, .int 0])), (q0, .inl (g.1, (80, .inl (fun _ => 0))))] H := hP
  have hD : va_D A [(h0, .inr (0, [.ref q0, .int 0, .int 0, .int 0, .int 0, .int 0, .int 0, .int 0])), (q0, .inl (g.1, (80, .inl (fun _ => 0))))] := hD
  refine lv_aload_n hx hb dX0_init_12 rfl (lv_at hl 0 rfl) ?_
  refine lv_bipush (v := -6) hx hb dX0_init_13 (by decide) ?_
  refine va_put (D := D) (ci := 0) (v := .int (-6)) (ty := .int) (C := RX0) (T := TX0) (N := 8) hx hb hts (fun w hw => in_X0 w hw) tyX0 tyX0_ok nmX0 hown hK hP hD hS 0 rfl rfl 3 (by decide) (hts (.fieldLink RX0 15 "VacantAir$ActText" "fault" "I") (by decide +kernel)) (fun _ h9 => h9) rfl (by decide +kernel) rfl rfl (Nat.le_of_ble_eq_true rfl) dX0_init_15 (fun H locs hP hD hS => ?_)
  have hP : va_P D vwCl [(h0, .inr (0, [.ref q0, .int 0, .int 0, .int (-6), .int 0, .int 0, .int 0, .int 0])), (q0, .inl (g.1, (80, .inl (fun _ => 0))))] H := hP
  have hD : va_D A [(h0, .inr (0, [.ref q0, .int 0, .int 0, .int (-6), .int 0, .int 0, .int 0, .int 0])), (q0, .inl (g.1, (80, .inl (fun _ => 0))))] := hD
  refine W.vret hx hb hr (fun t ht hW => ⟨⟨fun _ => q0, rfl, trivial, ?_, ?_⟩, hS.F ht⟩) hS.2.2 dX0_init_18
  · rw [ht]; exact hP
  · exact hD
theorem in_X4 : ∀ w ∈ u_ws RX4 TX4 6, w ∈ wsX4_init := fun w hw => List.mem_cons_of_mem _ (List.mem_append_left _ (List.mem_append_left _ (List.mem_append_right _ hw)))
theorem in_X4_5 : ∀ w ∈ u_ws RX5 TX5 6, w ∈ wsX4_init := fun w hw => List.mem_cons_of_mem _ (List.mem_append_left _ (List.mem_append_left _ (List.mem_append_left _ (List.mem_append_right _ hw))))
theorem in_X4_2 : ∀ w ∈ u_ws RX2 TX2 8, w ∈ wsX4_init := fun w hw => List.mem_cons_of_mem _ (List.mem_append_left _ (List.mem_append_right _ hw))
theorem in_X4_1 : ∀ w ∈ u_ws RX1 TX1 11, w ∈ wsX4_init := fun w hw => List.mem_cons_of_mem _ (List.mem_append_right _ hw)
def b_set (m0 : aM) : Nat → Int32 := upd (upd (upd (fun _ => 0) 0 (m0 43 0 0)) 1 (m0 43 0 1)) 2 (m0 43 0 2)
def b_wX4 (m0 : aM) (g : aG) (h0 : Nat) (f : Nat → Nat) : va_W := [(h0, .inr (4, [.ref (f 1), .ref (f 2), .ref (f 3), .ref (f 26), .int 0, .int 0])), (f 1, .inr (5, [.ref (f 4), .ref (f 5), .ref (f 6), .ref (f 7), .ref (f 8), .int 0])), (f 2, .inr (2, [.ref (f 9), .ref (f 10), .ref (f 11), .ref (f 12), .ref (f 13), .ref (f 14), .ref (f 15), .int 0])), (f 3, .inr (1, [.ref (f 16), .ref (f 17), .ref (f 18), .ref (f 19), .ref (f 20), .ref (f 21), .ref (f 22), .ref (f 23), .ref (f 24), .ref (f 25), .int 0])), (f 4, .inl (g.1, (8, .inl (fun _ => 0)))), (f 5, .inl (g.1, (8, .inl (fun _ => 0)))), (f 6, .inl (g.1, (8, .inl (fun _ => 0)))), (f 7, .inl (g.1, (8, .inl (fun _ => 0)))), (f 8, .inl (g.1, (8, .inl (fun _ => 0)))), (f 9, .inl (g.1, (8, .inl (fun _ => 0)))), (f 10, .inl (g.1, (8, .inl (fun _ => 0)))), (f 11, .inl (g.1, (8, .inl (fun _ => 0)))), (f 12, .inl (g.1, (8, .inl (fun _ => 0)))), (f 13, .inl (g.1, (8, .inl (fun _ => 0)))), (f 14, .inl (g.1, (8, .inl (fun _ => 0)))), (f 15, .inl (g.1, (8, .inl (fun _ => 0)))), (f 16, .inl (g.1, (16, .inl (fun _ => 0)))), (f 17, .inl (g.1, (16, .inl (fun _ => 0)))), (f 18, .inl (g.1, (16, .inl (fun _ => 0)))), (f 19, .inl (g.1, (16, .inl (fun _ => 0)))), (f 20, .inl (g.1, (16, .inl (fun _ => 0)))), (f 21, .inl (g.1, (16, .inl (fun _ => 0)))), (f 22, .inl (g.1, (16, .inl (fun _ => 0)))), (f 23, .inl (g.1, (16, .inl (fun _ => 0)))), (f 24, .inl (g.1, (16, .inl (fun _ => 0)))), (f 25, .inl (g.1, (16, .inl (fun _ => 0)))), (f 26, .inl (g.1, (3, .inl (b_set m0))))]
set_option maxHeartbeats 4000000 in
set_option maxRecDepth 100000 in
/-- State() -/
theorem c_X4 (l : Launch) (base : Nat) (D : va_G) (g : aG) (m0 : aM) (h0 sz : Nat) : Met l yX4_init wsX4_init ({ frames := 2, cells := 26, slots := 284, locals := 33 }) (b_Pc base D g m0 h0 (.inr (4, [.null, .null, .null, .null, .int 0, .int 0])) sz) (b_Qc D h0 (.inr (4, [.null, .null, .null, .null, .int 0, .int 0])) sz (b_wX4 m0 g h0)) 26 284 (va_A [(h0, (.inr (4, [.null, .null, .null, .null, .int 0, .int 0])))] sz) := by
  refine Met.ofW (cc := cX4_init) (maxL := 2) (ret := none) (by decide) rfl ?_
  intro p e s m args below meth c s₁ B hml hv
  obtain ⟨rfl, hsz, hP, ⟨hSt, hTb⟩, hbh⟩ := hv
  have hx := B.exec
  have hb := B.bytes
  have hr := B.returns
  have hts := atoms_spec (ws := wsX4_init) B.pre
  have hown : s.vm.findClass RX4 = some m.cls := findClass_of_methodNamed B.named
  have hlocks := B.notSynchronized
  have hin : meth.name = "<init>" := (name_of_methodNamed B.named B.method).1
  subst hsz
  have hK := hSt.1
  have hbs : base ≤ s.heap.size := hSt.2.2.1.2.2
  have hD : va_D (va_A [(h0, (.inr (4, [.null, .null, .null, .null, .int 0, .int 0])))] s.heap.size) [(h0, (.inr (4, [.null, .null, .null, .null, .int 0, .int 0])))] := ⟨fun i j x y hx hy _ => by
    have h1 : i < 1 := (List.getElem?_eq_some_iff.mp hx).1
    have h2 : j < 1 := (List.getElem?_eq_some_iff.mp hy).1
    omega, fun k x hx => va_A.in hx⟩
  have hAb : ∀ q, va_A [(h0, (.inr (4, [.null, .null, .null, .null, .int 0, .int 0])))] s.heap.size q → base ≤ q := by
    intro q h
    rcases h with ⟨k, e2, h⟩ | h
    · have hz : k < 1 := (List.getElem?_eq_some_iff.mp h).1
      rw [show k = 0 by omega] at h
      have hh : (h0, ((.inr (4, [.null, .null, .null, .null, .int 0, .int 0])) : va_E)) = (q, e2) := Option.some.inj h
      have h3 : h0 = q := congrArg Prod.fst hh
      exact h3 ▸ hbh
    · exact Nat.le_trans hbs h
  unfold b_Qc
  generalize hAe : va_A [(h0, (.inr (4, [.null, .null, .null, .null, .int 0, .int 0])))] s.heap.size = A at hD hAb ⊢
  have hA : ∀ q : Nat, s.heap.size ≤ q → A q := fun q h => by rw [← hAe]; exact Or.inr h
  have hS : va_S A s.heap s.heap [] := va_S.rf
  have hP : va_P D vwCl [(h0, (.inr (4, [.null, .null, .null, .null, .int 0, .int 0])))] s.heap := hP
  have hl := lv_entry ([.ref h0]) (n := 2) (Nat.le_of_ble_eq_true rfl)
  rw [lg_entry_eq]
  generalize (lg_sl ([.ref h0]) ++ List.replicate (2 - (lg_sl ([.ref h0])).length) Slot.unset).toArray = ls at hl ⊢
  have hl : lv_has ls 2 [(0, .ref h0)] := hl
  refine lv_aload_n hx hb dX4_init_0 rfl (lv_at hl 0 rfl) ?_
  refine W.objInit hx hb hown (hts (.methodLink RX4 3 objectInit) (by decide +kernel)) (hts (.instanceMethod objectInit) (by decide +kernel)) (hts (.code objectInit ⟨#[0xb1]⟩ 1 none) (by decide +kernel)) rfl (by rw [hml]; exact hl.1) rfl dX4_init_1 (Nat.le_of_ble_eq_true rfl) (Nat.le_of_ble_eq_true rfl) ?_
  refine W.eq (g2 := F0 m 4 ls []) rfl ?_
  refine lv_aload_n hx hb dX4_init_4 rfl (lv_at hl 0 rfl) ?_
  refine va_new (ci := 5) (fs := [.null, .null, .null, .null, .null, .int 0]) (C := RX5) (T := TX5) (N := 6) hx hb hts in_X4_5 tyX5 tyX5_ok hown (hts (.classLink RX4 9 RX5) (by decide +kernel)) (hts (.instantiable RX5 6) (by decide +kernel)) (hts (.initialized RX5) (by decide +kernel)) hK hP hD hS hA rfl (by decide +kernel) (Nat.le_of_ble_eq_true rfl) (Nat.le_of_ble_eq_true rfl) dX4_init_5 (fun qX5 H hP hD hS => ?_)
  refine W.widen (k := 1) (n := 6) (by decide) (by decide) ?_
  have hP : va_P D vwCl ([(h0, .inr (4, [.null, .null, .null, .null, .int 0, .int 0]))] ++ [(qX5, .inr (5, [.null, .null, .null, .null, .null, .int 0]))]) H := hP
  have hD : va_D A ([(h0, .inr (4, [.null, .null, .null, .null, .int 0, .int 0]))] ++ [(qX5, .inr (5, [.null, .null, .null, .null, .null, .int 0]))]) := hD
  refine lv_dup hx hb dX4_init_8 rfl ?_
  refine b_callv (va_runIN (As := []) (rest := [.ref qX5, .ref h0]) ⟨hx, hb, hml, hown, hts⟩ (c_X5 l base D g m0 qX5 H.size) ⟨va_cnB 0 hts gX4_init_X5_init_n11 rfl rfl rfl (hTb.1 (.methodLinkNest RX4 11 yX5_init "VacantAir") (List.mem_of_getElem? (i := 0) rfl)) (hts (.initialized RX5) (by decide +kernel)) (by decide +kernel) ⟨Nat.le_of_ble_eq_true rfl, Nat.le_of_ble_eq_true rfl⟩, rfl, hts (.instanceMethod yX5_init) (by decide +kernel)⟩ (b_pres hSt hTb hS hAb (hP.sub [1] rfl) (hD.2 1 (qX5, .inr (5, [.null, .null, .null, .null, .null, .int 0])) rfl)) rfl rfl hl.1 rfl (lv_room (Nat.le_of_ble_eq_true rfl)) dX4_init_9 ⟨Nat.le_of_ble_eq_true rfl, Nat.le_of_ble_eq_true rfl⟩) rfl hP hD hS hA (fun fX5 H locs hP hD hS => ?_)
  refine W.widen (k := 6) (n := 46) (by decide) (by decide) ?_
  refine va_putF (D := D) (ci := 4) (v := .ref qX5) (ty := .object "VacantAir$Stations") (C := RX4) (T := TX4) (N := 6) hx hb hts (fun w hw => in_X4 w hw) tyX4 tyX4_ok nmX4 hown hK hP hD hS 0 rfl rfl 0 (by decide) (hts (.fieldLink RX4 12 "VacantAir$State" "stations" "LVacantAir$Stations;") (by decide +kernel)) (fun _ h9 => h9) rfl hin rfl (by decide +kernel) rfl rfl (Nat.le_of_ble_eq_true rfl) dX4_init_12 (fun H locs hP hD hS => ?_)
  have hP : va_P D vwCl ((h0, .inr (4, [.ref qX5, .null, .null, .null, .int 0, .int 0])) :: (b_wX5 g qX5 fX5)) H := hP
  have hD : va_D A ((h0, .inr (4, [.ref qX5, .null, .null, .null, .int 0, .int 0])) :: (b_wX5 g qX5 fX5)) := hD
  refine lv_aload_n hx hb dX4_init_15 rfl (lv_at hl 0 rfl) ?_
  refine va_new (ci := 2) (fs := [.null, .null, .null, .null, .null, .null, .null, .int 0]) (C := RX2) (T := TX2) (N := 8) hx hb hts in_X4_2 tyX2 tyX2_ok hown (hts (.classLink RX4 18 RX2) (by decide +kernel)) (hts (.instantiable RX2 8) (by decide +kernel)) (hts (.initialized RX2) (by decide +kernel)) hK hP hD hS hA rfl (by decide +kernel) (Nat.le_of_ble_eq_true rfl) (Nat.le_of_ble_eq_true rfl) dX4_init_16 (fun qX2 H hP hD hS => ?_)
  refine W.widen (k := 7) (n := 54) (by decide) (by decide) ?_
  have hP : va_P D vwCl (((h0, .inr (4, [.ref qX5, .null, .null, .null, .int 0, .int 0])) :: (b_wX5 g qX5 fX5)) ++ [(qX2, .inr (2, [.null, .null, .null, .null, .null, .null, .null, .int 0]))]) H := hP
  have hD : va_D A (((h0, .inr (4, [.ref qX5, .null, .null, .null, .int 0, .int 0])) :: (b_wX5 g qX5 fX5)) ++ [(qX2, .inr (2, [.null, .null, .null, .null, .null, .null, .null, .int 0]))]) := hD
  refine lv_dup hx hb dX4_init_19 rfl ?_
  refine b_callv (va_runIN (As := []) (rest := [.ref qX2, .ref h0]) ⟨hx, hb, hml, hown, hts⟩ (c_X2 l base D g m0 qX2 H.size) ⟨va_cnB 0 hts gX4_init_X2_init_n20 rfl rfl rfl (hTb.1 (.methodLinkNest RX4 20 yX2_init "VacantAir") (List.mem_of_getElem? (i := 1) rfl)) (hts (.initialized RX2) (by decide +kernel)) (by decide +kernel) ⟨Nat.le_of_ble_eq_true rfl, Nat.le_of_ble_eq_true rfl⟩, rfl, hts (.instanceMethod yX2_init) (by decide +kernel)⟩ (b_pres hSt hTb hS hAb (hP.sub [7] rfl) (hD.2 7 (qX2, .inr (2, [.null, .null, .null, .null, .null, .null, .null, .int 0])) rfl)) rfl rfl hl.1 rfl (lv_room (Nat.le_of_ble_eq_true rfl)) dX4_init_20 ⟨Nat.le_of_ble_eq_true rfl, Nat.le_of_ble_eq_true rfl⟩) rfl hP hD hS hA (fun fX2 H locs hP hD hS => ?_)
  refine W.widen (k := 14) (n := 110) (by decide) (by decide) ?_
  refine va_putF (D := D) (ci := 4) (v := .ref qX2) (ty := .object "VacantAir$Events") (C := RX4) (T := TX4) (N := 6) hx hb hts (fun w hw => in_X4 w hw) tyX4 tyX4_ok nmX4 hown hK hP hD hS 0 rfl rfl 1 (by decide) (hts (.fieldLink RX4 21 "VacantAir$State" "events" "LVacantAir$Events;") (by decide +kernel)) (fun _ h9 => h9) rfl hin rfl (by decide +kernel) rfl rfl (Nat.le_of_ble_eq_true rfl) dX4_init_23 (fun H locs hP hD hS => ?_)
  have hP : va_P D vwCl ((h0, .inr (4, [.ref qX5, .ref qX2, .null, .null, .int 0, .int 0])) :: (b_wX5 g qX5 fX5 ++ b_wX2 g qX2 fX2)) H := hP
  have hD : va_D A ((h0, .inr (4, [.ref qX5, .ref qX2, .null, .null, .int 0, .int 0])) :: (b_wX5 g qX5 fX5 ++ b_wX2 g qX2 fX2)) := hD
  refine lv_aload_n hx hb dX4_init_26 rfl (lv_at hl 0 rfl) ?_
  refine va_new (ci := 1) (fs := [.null, .null, .null, .null, .null, .null, .null, .null, .null, .null, .int 0]) (C := RX1) (T := TX1) (N := 11) hx hb hts in_X4_1 tyX1 tyX1_ok hown (hts (.classLink RX4 25 RX1) (by decide +kernel)) (hts (.instantiable RX1 11) (by decide +kernel)) (hts (.initialized RX1) (by decide +kernel)) hK hP hD hS hA rfl (by decide +kernel) (Nat.le_of_ble_eq_true rfl) (Nat.le_of_ble_eq_true rfl) dX4_init_27 (fun qX1 H hP hD hS => ?_)
  refine W.widen (k := 15) (n := 121) (by decide) (by decide) ?_
  have hP : va_P D vwCl (((h0, .inr (4, [.ref qX5, .ref qX2, .null, .null, .int 0, .int 0])) :: (b_wX5 g qX5 fX5 ++ b_wX2 g qX2 fX2)) ++ [(qX1, .inr (1, [.null, .null, .null, .null, .null, .null, .null, .null, .null, .null, .int 0]))]) H := hP
  have hD : va_D A (((h0, .inr (4, [.ref qX5, .ref qX2, .null, .null, .int 0, .int 0])) :: (b_wX5 g qX5 fX5 ++ b_wX2 g qX2 fX2)) ++ [(qX1, .inr (1, [.null, .null, .null, .null, .null, .null, .null, .null, .null, .null, .int 0]))]) := hD
  refine lv_dup hx hb dX4_init_30 rfl ?_
  refine b_callv (va_runIN (As := []) (rest := [.ref qX1, .ref h0]) ⟨hx, hb, hml, hown, hts⟩ (c_X1 l base D g m0 qX1 H.size) ⟨va_cnB 0 hts gX4_init_X1_init_n27 rfl rfl rfl (hTb.1 (.methodLinkNest RX4 27 yX1_init "VacantAir") (List.mem_of_getElem? (i := 2) rfl)) (hts (.initialized RX1) (by decide +kernel)) (by decide +kernel) ⟨Nat.le_of_ble_eq_true rfl, Nat.le_of_ble_eq_true rfl⟩, rfl, hts (.instanceMethod yX1_init) (by decide +kernel)⟩ (b_pres hSt hTb hS hAb (hP.sub [15] rfl) (hD.2 15 (qX1, .inr (1, [.null, .null, .null, .null, .null, .null, .null, .null, .null, .null, .int 0])) rfl)) rfl rfl hl.1 rfl (lv_room (Nat.le_of_ble_eq_true rfl)) dX4_init_31 ⟨Nat.le_of_ble_eq_true rfl, Nat.le_of_ble_eq_true rfl⟩) rfl hP hD hS hA (fun fX1 H locs hP hD hS => ?_)
  refine W.widen (k := 25) (n := 281) (by decide) (by decide) ?_
  refine va_putF (D := D) (ci := 4) (v := .ref qX1) (ty := .object "VacantAir$Devices") (C := RX4) (T := TX4) (N := 6) hx hb hts (fun w hw => in_X4 w hw) tyX4 tyX4_ok nmX4 hown hK hP hD hS 0 rfl rfl 2 (by decide) (hts (.fieldLink RX4 28 "VacantAir$State" "devices" "LVacantAir$Devices;") (by decide +kernel)) (fun _ h9 => h9) rfl hin rfl (by decide +kernel) rfl rfl (Nat.le_of_ble_eq_true rfl) dX4_init_34 (fun H locs hP hD hS => ?_)
  have hP : va_P D vwCl ((h0, .inr (4, [.ref qX5, .ref qX2, .ref qX1, .null, .int 0, .int 0])) :: (b_wX5 g qX5 fX5 ++ b_wX2 g qX2 fX2 ++ b_wX1 g qX1 fX1)) H := hP
  have hD : va_D A ((h0, .inr (4, [.ref qX5, .ref qX2, .ref qX1, .null, .int 0, .int 0])) :: (b_wX5 g qX5 fX5 ++ b_wX2 g qX2 fX2 ++ b_wX1 g qX1 fX1)) := hD
  refine lv_aload_n hx hb dX4_init_37 rfl (lv_at hl 0 rfl) ?_
  refine lv_iconst (v := 3) hx hb dX4_init_38 (by decide) ?_
  refine b_newi hx hb (hts (.arrayClass .int) (by decide +kernel)) hK 0 rfl hP hD hS hA (N := 3) (by decide) (by decide) (Nat.le_of_ble_eq_true rfl) (Nat.le_of_ble_eq_true rfl) (Nat.le_of_ble_eq_true rfl) dX4_init_39 (fun qs H hP hD hS => ?_)
  refine W.widen (k := 26) (n := 284) (by decide) (by decide) ?_
  have hP : va_P D vwCl ((h0, .inr (4, [.ref qX5, .ref qX2, .ref qX1, .null, .int 0, .int 0])) :: (b_wX5 g qX5 fX5 ++ b_wX2 g qX2 fX2 ++ b_wX1 g qX1 fX1 ++ [(qs, .inl (g.1, (3, .inl (fun _ => 0))))])) H := hP
  have hD : va_D A ((h0, .inr (4, [.ref qX5, .ref qX2, .ref qX1, .null, .int 0, .int 0])) :: (b_wX5 g qX5 fX5 ++ b_wX2 g qX2 fX2 ++ b_wX1 g qX1 fX1 ++ [(qs, .inl (g.1, (3, .inl (fun _ => 0))))])) := hD
  refine va_putF (D := D) (ci := 4) (v := .ref qs) (ty := .array .int) (C := RX4) (T := TX4) (N := 6) hx hb hts (fun w hw => in_X4 w hw) tyX4 tyX4_ok nmX4 hown hK hP hD hS 0 rfl rfl 3 (by decide) (hts (.fieldLink RX4 32 "VacantAir$State" "settings" "[I") (by decide +kernel)) (fun _ h9 => h9) rfl hin rfl (by decide +kernel) rfl rfl (Nat.le_of_ble_eq_true rfl) dX4_init_41 (fun H locs hP hD hS => ?_)
  have hP : va_P D vwCl ((h0, .inr (4, [.ref qX5, .ref qX2, .ref qX1, .ref qs, .int 0, .int 0])) :: (b_wX5 g qX5 fX5 ++ b_wX2 g qX2 fX2 ++ b_wX1 g qX1 fX1 ++ [(qs, .inl (g.1, (3, .inl (fun _ => 0))))])) H := hP
  have hD : va_D A ((h0, .inr (4, [.ref qX5, .ref qX2, .ref qX1, .ref qs, .int 0, .int 0])) :: (b_wX5 g qX5 fX5 ++ b_wX2 g qX2 fX2 ++ b_wX1 g qX1 fX1 ++ [(qs, .inl (g.1, (3, .inl (fun _ => 0))))])) := hD
  refine lv_iconst (v := 0) hx hb dX4_init_44 (by decide) ?_
  refine lv_istore_n (lv' := [(1, .int 0), (0, .ref h0)]) hx hb dX4_init_45 rfl hl (by decide) rfl (fun ls hl => ?_)
  have hZ := (hSt.2.1 43 (by decide) (by decide)).1.narrow hAb
  have hT := (hSt.2.1 43 (by decide) (by decide)).2.narrow hAb
  refine lv_iload_n hx hb dX4_init_46 rfl (lv_at hl 0 rfl) ?_
  refine lv_iconst (v := 3) hx hb dX4_init_47 (by decide) ?_
  refine lv_icmp_ge (tgt := 68) hx hb dX4_init_48 (by decide) (fun h9 => absurd h9 (by decide)) (fun _ => ?_)
  refine lv_aload_n hx hb dX4_init_51 rfl (lv_at hl 1 rfl) ?_
  refine va_get (ci := 4) (C := RX4) (T := TX4) (N := 6) hx hb hts (fun w hw => in_X4 w hw) hown hK hP 0 rfl rfl 3 (by decide) (hts (.fieldLink RX4 32 "VacantAir$State" "settings" "[I") (by decide +kernel)) (fun _ h9 => h9) (v := .ref qs) rfl dX4_init_52 ?_
  refine lv_iload_n hx hb dX4_init_55 rfl (lv_at hl 0 rfl) ?_
  refine va_getsN hx hb hZ hS hown (va_Nw.use rfl (hSt.2.2.2 (.fieldLinkNest RX4 36 "VacantAir" "FIRST_VALUES" "[I" "VacantAir") (List.mem_of_getElem? (i := 7) rfl))) (fun _ h9 => h9) dX4_init_56 ?_
  refine lv_iload_n hx hb dX4_init_59 rfl (lv_at hl 0 rfl) ?_
  refine va_ti hx hb hT hS (i := 0) (a_in_vp (by decide +kernel)) (v := .int (m0 43 0 0)) rfl dX4_init_60 ?_
  refine va_iast hx hb hK hP hD hS 26 0 rfl rfl (a_in_vp (by decide +kernel)) dX4_init_61 (fun H locs hP hD hS => ?_)
  rw [show Int32.toNatClampNeg 0 = 0 by decide] at hP hD
  have hP : va_P D vwCl ((h0, .inr (4, [.ref qX5, .ref qX2, .ref qX1, .ref qs, .int 0, .int 0])) :: (b_wX5 g qX5 fX5 ++ b_wX2 g qX2 fX2 ++ b_wX1 g qX1 fX1 ++ [(qs, .inl (g.1, (3, .inl (upd (fun _ => 0) 0 (m0 43 0 0)))))])) H := hP
  have hD : va_D A ((h0, .inr (4, [.ref qX5, .ref qX2, .ref qX1, .ref qs, .int 0, .int 0])) :: (b_wX5 g qX5 fX5 ++ b_wX2 g qX2 fX2 ++ b_wX1 g qX1 fX1 ++ [(qs, .inl (g.1, (3, .inl (upd (fun _ => 0) 0 (m0 43 0 0)))))])) := hD
  refine lv_iinc (v := 1) (lv' := [(1, .int 1), (0, .ref h0)]) hx hb dX4_init_62 hl (k := 0) rfl (by decide) (by decide) rfl (fun ls hl => ?_)
  refine lv_goto (tgt := 46) hx hb dX4_init_65 (by decide) ?_
  refine lv_iload_n hx hb dX4_init_46 rfl (lv_at hl 0 rfl) ?_
  refine lv_iconst (v := 3) hx hb dX4_init_47 (by decide) ?_
  refine lv_icmp_ge (tgt := 68) hx hb dX4_init_48 (by decide) (fun h9 => absurd h9 (by decide)) (fun _ => ?_)
  refine lv_aload_n hx hb dX4_init_51 rfl (lv_at hl 1 rfl) ?_
  refine va_get (ci := 4) (C := RX4) (T := TX4) (N := 6) hx hb hts (fun w hw => in_X4 w hw) hown hK hP 0 rfl rfl 3 (by decide) (hts (.fieldLink RX4 32 "VacantAir$State" "settings" "[I") (by decide +kernel)) (fun _ h9 => h9) (v := .ref qs) rfl dX4_init_52 ?_
  refine lv_iload_n hx hb dX4_init_55 rfl (lv_at hl 0 rfl) ?_
  refine va_getsN hx hb hZ hS hown (va_Nw.use rfl (hSt.2.2.2 (.fieldLinkNest RX4 36 "VacantAir" "FIRST_VALUES" "[I" "VacantAir") (List.mem_of_getElem? (i := 7) rfl))) (fun _ h9 => h9) dX4_init_56 ?_
  refine lv_iload_n hx hb dX4_init_59 rfl (lv_at hl 0 rfl) ?_
  refine va_ti hx hb hT hS (i := 1) (a_in_vp (by decide +kernel)) (v := .int (m0 43 0 1)) rfl dX4_init_60 ?_
  refine va_iast hx hb hK hP hD hS 26 0 rfl rfl (a_in_vp (by decide +kernel)) dX4_init_61 (fun H locs hP hD hS => ?_)
  rw [show Int32.toNatClampNeg 1 = 1 by decide] at hP hD
  have hP : va_P D vwCl ((h0, .inr (4, [.ref qX5, .ref qX2, .ref qX1, .ref qs, .int 0, .int 0])) :: (b_wX5 g qX5 fX5 ++ b_wX2 g qX2 fX2 ++ b_wX1 g qX1 fX1 ++ [(qs, .inl (g.1, (3, .inl (upd (upd (fun _ => 0) 0 (m0 43 0 0)) 1 (m0 43 0 1)))))])) H := hP
  have hD : va_D A ((h0, .inr (4, [.ref qX5, .ref qX2, .ref qX1, .ref qs, .int 0, .int 0])) :: (b_wX5 g qX5 fX5 ++ b_wX2 g qX2 fX2 ++ b_wX1 g qX1 fX1 ++ [(qs, .inl (g.1, (3, .inl (upd (upd (fun _ => 0) 0 (m0 43 0 0)) 1 (m0 43 0 1)))))])) := hD
  refine lv_iinc (v := 2) (lv' := [(1, .int 2), (0, .ref h0)]) hx hb dX4_init_62 hl (k := 0) rfl (by decide) (by decide) rfl (fun ls hl => ?_)
  refine lv_goto (tgt := 46) hx hb dX4_init_65 (by decide) ?_
  refine lv_iload_n hx hb dX4_init_46 rfl (lv_at hl 0 rfl) ?_
  refine lv_iconst (v := 3) hx hb dX4_init_47 (by decide) ?_
  refine lv_icmp_ge (tgt := 68) hx hb dX4_init_48 (by decide) (fun h9 => absurd h9 (by decide)) (fun _ => ?_)
  refine lv_aload_n hx hb dX4_init_51 rfl (lv_at hl 1 rfl) ?_
  refine va_get (ci := 4) (C := RX4) (T := TX4) (N := 6) hx hb hts (fun w hw => in_X4 w hw) hown hK hP 0 rfl rfl 3 (by decide) (hts (.fieldLink RX4 32 "VacantAir$State" "settings" "[I") (by decide +kernel)) (fun _ h9 => h9) (v := .ref qs) rfl dX4_init_52 ?_
  refine lv_iload_n hx hb dX4_init_55 rfl (lv_at hl 0 rfl) ?_
  refine va_getsN hx hb hZ hS hown (va_Nw.use rfl (hSt.2.2.2 (.fieldLinkNest RX4 36 "VacantAir" "FIRST_VALUES" "[I" "VacantAir") (List.mem_of_getElem? (i := 7) rfl))) (fun _ h9 => h9) dX4_init_56 ?_
  refine lv_iload_n hx hb dX4_init_59 rfl (lv_at hl 0 rfl) ?_
  refine va_ti hx hb hT hS (i := 2) (a_in_vp (by decide +kernel)) (v := .int (m0 43 0 2)) rfl dX4_init_60 ?_
  refine va_iast hx hb hK hP hD hS 26 0 rfl rfl (a_in_vp (by decide +kernel)) dX4_init_61 (fun H locs hP hD hS => ?_)
  rw [show Int32.toNatClampNeg 2 = 2 by decide] at hP hD
  have hP : va_P D vwCl ((h0, .inr (4, [.ref qX5, .ref qX2, .ref qX1, .ref qs, .int 0, .int 0])) :: (b_wX5 g qX5 fX5 ++ b_wX2 g qX2 fX2 ++ b_wX1 g qX1 fX1 ++ [(qs, .inl (g.1, (3, .inl (upd (upd (upd (fun _ => 0) 0 (m0 43 0 0)) 1 (m0 43 0 1)) 2 (m0 43 0 2)))))])) H := hP
  have hD : va_D A ((h0, .inr (4, [.ref qX5, .ref qX2, .ref qX1, .ref qs, .int 0, .int 0])) :: (b_wX5 g qX5 fX5 ++ b_wX2 g qX2 fX2 ++ b_wX1 g qX1 fX1 ++ [(qs, .inl (g.1, (3, .inl (upd (upd (upd (fun _ => 0) 0 (m0 43 0 0)) 1 (m0 43 0 1)) 2 (m0 43 0 2)))))])) := hD
  refine lv_iinc (v := 3) (lv' := [(1, .int 3), (0, .ref h0)]) hx hb dX4_init_62 hl (k := 0) rfl (by decide) (by decide) rfl (fun ls hl => ?_)
  refine lv_goto (tgt := 46) hx hb dX4_init_65 (by decide) ?_
  refine lv_iload_n hx hb dX4_init_46 rfl (lv_at hl 0 rfl) ?_
  refine lv_iconst (v := 3) hx hb dX4_init_47 (by decide) ?_
  refine lv_icmp_ge (tgt := 68) hx hb dX4_init_48 (by decide) (fun _ => ?_) (fun h9 => absurd (by decide) h9)
  have hP9 := hP.sub (ws' := b_wX4 m0 g h0 (fun i => [h0, qX5, qX2, qX1, fX5 4, fX5 5, fX5 6, fX5 7, fX5 8, fX2 9, fX2 10, fX2 11, fX2 12, fX2 13, fX2 14, fX2 15, fX1 16, fX1 17, fX1 18, fX1 19, fX1 20, fX1 21, fX1 22, fX1 23, fX1 24, fX1 25, qs].getD i 0)) [0, 1, 7, 15, 2, 3, 4, 5, 6, 8, 9, 10, 11, 12, 13, 14, 16, 17, 18, 19, 20, 21, 22, 23, 24, 25, 26] rfl
  have hD9 := hD.sub (ws' := b_wX4 m0 g h0 (fun i => [h0, qX5, qX2, qX1, fX5 4, fX5 5, fX5 6, fX5 7, fX5 8, fX2 9, fX2 10, fX2 11, fX2 12, fX2 13, fX2 14, fX2 15, fX1 16, fX1 17, fX1 18, fX1 19, fX1 20, fX1 21, fX1 22, fX1 23, fX1 24, fX1 25, qs].getD i 0)) [0, 1, 7, 15, 2, 3, 4, 5, 6, 8, 9, 10, 11, 12, 13, 14, 16, 17, 18, 19, 20, 21, 22, 23, 24, 25, 26] (by decide) rfl
  refine W.vret hx hb hr (fun t ht hW => ⟨⟨(fun i => [h0, qX5, qX2, qX1, fX5 4, fX5 5, fX5 6, fX5 7, fX5 8, fX2 9, fX2 10, fX2 11, fX2 12, fX2 13, fX2 14, fX2 15, fX1 16, fX1 17, fX1 18, fX1 19, fX1 20, fX1 21, fX1 22, fX1 23, fX1 24, fX1 25, qs].getD i 0), rfl, trivial, ?_, ?_⟩, hS.F ht⟩) hS.2.2 dX4_init_68
  · rw [ht]; exact hP9
  · exact hD9
