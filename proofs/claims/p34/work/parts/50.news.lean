/-! the first memory; new rows; a call of a constructor -/
def b_tb : List Cond := [.methodLinkNest RX4 11 yX5_init "VacantAir", .methodLinkNest RX4 20 yX2_init "VacantAir", .methodLinkNest RX4 27 yX1_init "VacantAir", .methodLinkNest RX6 36 yX0_init "VacantAir"]
def b_Tab (U : State) : Prop := (∀ w ∈ b_tb, va_Nw w U) ∧ va_AO "VacantAir$State" U
theorem b_Tab_same {u U : State} (h1 : u.vm = U.vm) (h : b_Tab u) : b_Tab U := by
  refine ⟨fun w hw => va_Nw.same ?_ h1 (h.1 w hw), h.2.moved (h1 ▸ Vm.Alike.refl u.vm)⟩
  exact (List.all_eq_true.mp (show b_tb.all (fun w => w.onTables) = true by decide +kernel) w hw)
theorem b_Tab_moved {s U : State} (hW : s.WarmedH U.vm) (h : b_Tab s) : b_Tab U := by
  refine ⟨fun w hw => ?_, h.2.moved hW.alike⟩
  have hk : a_isN w = true := List.all_eq_true.mp (show b_tb.all a_isN = true by decide +kernel) w hw
  have h1 := h.1 w hw
  cases w with
  | methodLinkNest a b c d => exact va_Nw.warmM hW h1
  | fieldLinkNest a b c d e f => exact va_Nw.warmF hW h1
  | _ => cases hk
def b_Pre (base : Nat) (D : va_G) (g : aG) (m0 : aM) (h0 : Nat) (e : va_E) (sz : Nat) (U : State) : Prop := U.heap.size = sz ∧ va_P D vwCl [(h0, e)] U.heap ∧ (a_Sta base D g m0 U ∧ b_Tab U) ∧ base ≤ h0
def b_Pc (base : Nat) (D : va_G) (g : aG) (m0 : aM) (h0 : Nat) (e : va_E) (sz : Nat) : Array Value → State → Prop := va_Pc [.ref h0] (b_Pre base D g m0 h0 e sz)
def b_Qc {S : Type} (D : va_G) (h0 : Nat) (e : va_E) (sz : Nat) (wf : S → va_W) : Array Value → State → Outcome → State → Prop := va_Qv (fun _ : S => True) (fun q t => va_P D vwCl (wf q) t.heap ∧ va_D (va_A [(h0, e)] sz) (wf q)) (va_A [(h0, e)] sz)
theorem b_pres {base : Nat} {D : va_G} {g : aG} {m0 : aM} {s : State} {H : Heap} {q : Nat} {e : va_E} {A : Nat → Prop} {locs : List Loc} (hSt : a_Sta base D g m0 s) (hT : b_Tab s) (hS : va_S A s.heap H locs) (hA : ∀ q, A q → base ≤ q) (hP : va_P D vwCl [(q, e)] H) (hq : A q) : PreS s H (b_Pc base D g m0 q e H.size) [.ref q] := by
  refine ⟨fun a U gg mk h => ⟨h.1, h.2.1, h.2.2.1, ⟨a_Sta_same (u := U) (U := U.calling gg mk a) rfl rfl h.2.2.2.1.1, b_Tab_same (u := U) (U := U.calling gg mk a) rfl h.2.2.2.1.2⟩, h.2.2.2.2⟩, fun U hU hW => ⟨rfl, by rw [hU], by rw [hU]; exact hP, ⟨a_Sta_moved hW (by rw [hU]; exact hS.1) (fun x h1 h2 => by rw [hU]; exact hS.2.1 x h1 (fun h => h2 (hA x h))) (fun _ _ => rfl) hSt, b_Tab_moved hW hT⟩, hA q hq⟩⟩
theorem b_join {A0 : Nat → Prop} {D : va_G} {cl : List vw_C} {W w1 : va_W} {q : Nat} {e : va_E} {H H1 : Heap} (hP : va_P D cl (W ++ [(q, e)]) H) (hD : va_D A0 (W ++ [(q, e)])) (hk : ∀ x : Nat, x < H.size → ¬ va_A [(q, e)] H.size x → H1[x]? = H[x]?) (hF : ∀ x, va_A [(q, e)] H.size x → A0 x) (hP1 : va_P D cl w1 H1) (hD1 : va_D (va_A [(q, e)] H.size) w1) : va_P D cl (W ++ w1) H1 ∧ va_D A0 (W ++ w1) := by
  have hlt : ∀ (k : Nat) (x : Nat × va_E), W[k]? = some x → (W ++ [(q, e)])[k]? = some x ∧ k < W.length := fun k x hx => by
    have h := (List.getElem?_eq_some_iff.mp hx).1
    exact ⟨by rw [List.getElem?_append_left h]; exact hx, h⟩
  have hlast : (W ++ [(q, e)])[W.length]? = some (q, e) := by rw [List.getElem?_append_right (Nat.le_refl _), Nat.sub_self]; rfl
  have apart : ∀ (k : Nat) (x : Nat × va_E), W[k]? = some x → x.1 < H.size ∧ ¬ va_A [(q, e)] H.size x.1 := by
    intro k x hx
    obtain ⟨h1, h2⟩ := hlt k x hx
    have hl := (hP k x h1).lt
    refine ⟨hl, fun h => ?_⟩
    rcases h with ⟨k2, e2, h⟩ | h
    · have hz : k2 < 1 := (List.getElem?_eq_some_iff.mp h).1
      rw [show k2 = 0 by omega] at h
      have hh : (q, e) = (x.1, e2) := Option.some.inj h
      have := hD.1 k W.length x (q, e) h1 hlast (congrArg Prod.fst hh).symm
      omega
    · omega
  refine ⟨va_P.app (fun k x hx => ?_) hP1, va_D.app ⟨fun i j x y hx hy hxy => hD.1 i j x y (hlt i x hx).1 (hlt j y hy).1 hxy, fun k x hx => hD.2 k x (hlt k x hx).1⟩ (hD1.weaken (fun k x _ h => hF x.1 h)) (fun i j x y hx hy hxy => ?_)⟩
  · obtain ⟨g1, g2⟩ := apart k x hx
    exact (hP k x (hlt k x hx).1).kept (hk x.1 g1 g2)
  · exact (apart i x hx).2 (by rw [hxy]; exact hD1.2 j y hy)
section BNW
variable {p : Program} {l : Launch} {e : Env} {R : Room} {s : State} {m : MethodId} {args : Array Value} {below : List Frame} {meth : Method} {c : Code} {H : Heap} {locs : List Loc} {cells slots : Nat} {Q : State → Prop}
variable {cc : ByteArray} {pc : Nat} {ls : Array Slot} {rest : List Value} {D : va_G} {cl : List vw_C} {A : Nat → Prop} {tys : List (ClassId × FieldType)} {ws : va_W} {H0 : Heap}
theorem b_newi (hexec : p.tables.exec = Jvm.exec) (hb : c.code = cc) (harr : (Cond.arrayClass .int).before args s = true) (hK : va_K D cl tys s) {cI : ClassId} (t0 : Nat) (ht : tys[t0]? = some (cI, .int)) (hP : va_P D cl ws H) (hD : va_D A ws) (hS : va_S A H0 H locs) (hA : ∀ q, H0.size ≤ q → A q) {n : Int32} {N : Nat} (hn : ¬ n < 0) (hN : n.toNatClampNeg = N) (hbytes : N * componentBytes .int ≤ 536870912) (hcells : cells + 1 ≤ R.cells) (hslots : slots + N ≤ R.slots) (hdg : decode cc pc = .ok (.newarray .int, 2))
    (kk : ∀ (q : Nat) (H1 : Heap), va_P D cl (ws ++ [(q, .inl (cI, (N, .inl (fun _ => 0))))]) H1 → va_D A (ws ++ [(q, .inl (cI, (N, .inl (fun _ => 0))))]) → va_S A H0 H1 locs → W p l e R s m args below meth c H1 locs (cells + 1) (slots + N) Q (F0 m (pc + 2) ls (.ref q :: rest))) : W p l e R s m args below meth c H locs cells slots Q (F0 m pc ls (.int n :: rest)) := by
  refine va_newa (atype := .int) (ty := .int) (a0 := (N, .inl (fun _ => 0))) hexec hb harr rfl hK hP hD hS hA (fun _ => rfl) hn hN hbytes hcells hslots hdg (fun q cA H1 hK1 hP1 hD1 hS1 => ?_)
  have h1 := (hK1.2 tys.length (cA, .int) (by rw [List.getElem?_append_right (Nat.le_refl _), Nat.sub_self]; rfl)).2
  have h2 := (hK.2 t0 _ ht).2
  have e1 : cA = cI := Option.some.inj (Eq.trans (Eq.symm h1) h2)
  subst e1
  exact kk q H1 hP1 hD1 hS1
theorem b_newz (hexec : p.tables.exec = Jvm.exec) (hb : c.code = cc) (harr : (Cond.arrayClass .boolean).before args s = true) (hK : va_K D cl tys s) {cI : ClassId} (t0 : Nat) (ht : tys[t0]? = some (cI, .boolean)) (hP : va_P D cl ws H) (hD : va_D A ws) (hS : va_S A H0 H locs) (hA : ∀ q, H0.size ≤ q → A q) {n : Int32} {N : Nat} (hn : ¬ n < 0) (hN : n.toNatClampNeg = N) (hbytes : N * componentBytes .boolean ≤ 536870912) (hcells : cells + 1 ≤ R.cells) (hslots : slots + N ≤ R.slots) (hdg : decode cc pc = .ok (.newarray .boolean, 2))
    (kk : ∀ (q : Nat) (H1 : Heap), va_P D cl (ws ++ [(q, .inl (cI, (N, .inl (fun _ => 0))))]) H1 → va_D A (ws ++ [(q, .inl (cI, (N, .inl (fun _ => 0))))]) → va_S A H0 H1 locs → W p l e R s m args below meth c H1 locs (cells + 1) (slots + N) Q (F0 m (pc + 2) ls (.ref q :: rest))) : W p l e R s m args below meth c H locs cells slots Q (F0 m pc ls (.int n :: rest)) := by
  refine va_newa (atype := .boolean) (ty := .boolean) (a0 := (N, .inl (fun _ => 0))) hexec hb harr rfl hK hP hD hS hA (fun _ => rfl) hn hN hbytes hcells hslots hdg (fun q cA H1 hK1 hP1 hD1 hS1 => ?_)
  have h1 := (hK1.2 tys.length (cA, .boolean) (by rw [List.getElem?_append_right (Nat.le_refl _), Nat.sub_self]; rfl)).2
  have h2 := (hK.2 t0 _ ht).2
  have e1 : cA = cI := Option.some.inj (Eq.trans (Eq.symm h1) h2)
  subst e1
  exact kk q H1 hP1 hD1 hS1
theorem b_newq (hexec : p.tables.exec = Jvm.exec) (hb : c.code = cc) {own C : String} {index : Nat} (hown : s.vm.findClass own = some m.cls) (hclink : (Cond.classLink own index C).before args s = true) (hover : va_AO C s) (hK : va_K D cl tys s) {cS : ClassId} (t0 : Nat) (ht : tys[t0]? = some (cS, .object C)) (hP : va_P D cl ws H) (hD : va_D A ws) (hS : va_S A H0 H locs) (hA : ∀ q, H0.size ≤ q → A q) {n : Int32} {N : Nat} (hn : ¬ n < 0) (hN : n.toNatClampNeg = N) (hbytes : N * 4 ≤ 536870912) (hcells : cells + 1 ≤ R.cells) (hslots : slots + N ≤ R.slots) (hdg : decode cc pc = .ok (.anewarray index, 3))
    (kk : ∀ (q : Nat) (H1 : Heap), va_P D cl (ws ++ [(q, .inl (cS, (N, .inr (.inr (.inr (.inr (fun _ => none)))))))]) H1 → va_D A (ws ++ [(q, .inl (cS, (N, .inr (.inr (.inr (.inr (fun _ => none)))))))]) → va_S A H0 H1 locs → W p l e R s m args below meth c H1 locs (cells + 1) (slots + N) Q (F0 m (pc + 3) ls (.ref q :: rest))) : W p l e R s m args below meth c H locs cells slots Q (F0 m pc ls (.int n :: rest)) := by
  refine va_newq hexec hb hown hclink hover hK hP hD hS hA hn hN hbytes hcells hslots hdg (fun q cA H1 hK1 hP1 hD1 hS1 => ?_)
  obtain ⟨-, -, -, -, -, h1⟩ := (hK1.2 tys.length (cA, .object C) (by rw [List.getElem?_append_right (Nat.le_refl _), Nat.sub_self]; rfl)).2
  obtain ⟨-, -, -, -, -, h2⟩ := (hK.2 t0 _ ht).2
  have e1 : cA = cS := Option.some.inj (Eq.trans (Eq.symm h1) h2)
  subst e1
  exact kk q H1 hP1 hD1 hS1
theorem b_callv {S : Type} {mc ms q : Nat} {ec : va_E} {wf : S → va_W} {a : Array Value} {free : Addr → Prop} {st0 : List Value} {W0 : va_W} (hr : va_Run p l e R s m args below meth c H locs cells slots mc ms (F0 m pc ls st0) rest (b_Qc D q ec H.size wf a) free) (hfr : free = va_A [(q, ec)] H.size) (hP : va_P D vwCl (W0 ++ [(q, ec)]) H) (hD : va_D A (W0 ++ [(q, ec)])) (hS : va_S A H0 H locs) (hA : ∀ q, H0.size ≤ q → A q)
    (kk : ∀ (f : S) (H1 : Heap) (locs1 : List Loc), va_P D vwCl (W0 ++ wf f) H1 → va_D A (W0 ++ wf f) → va_S A H0 H1 locs1 → W p l e R s m args below meth c H1 locs1 (cells + mc) (slots + ms) Q (F0 m (pc + 3) ls rest)) : W p l e R s m args below meth c H locs cells slots Q (F0 m pc ls st0) := by
  subst hfr
  have hF : ∀ x, va_A [(q, ec)] H.size x → A x := by
    intro x h
    rcases h with ⟨k2, e2, h⟩ | h
    · have hz : k2 < 1 := (List.getElem?_eq_some_iff.mp h).1
      rw [show k2 = 0 by omega] at h
      have hh : (q, ec) = (x, e2) := Option.some.inj h
      have h2 := hD.2 W0.length (q, ec) (by rw [List.getElem?_append_right (Nat.le_refl _), Nat.sub_self]; rfl)
      have h3 : q = x := congrArg Prod.fst hh
      exact h3 ▸ h2
    · exact hA x (Nat.le_trans hS.1 h)
  refine va_callv hr hS (fun x _ h => hF x h) hF (fun f t H1 locs1 ht hvm _ hB hz1 hk1 hS1 => ?_)
  obtain ⟨hP1, hD1⟩ := hB
  rw [ht] at hP1
  obtain ⟨hP2, hD2⟩ := b_join hP hD hk1 hF hP1 hD1
  exact kk f H1 locs1 hP2 hD2 hS1
end BNW

theorem in_X5 : ∀ w ∈ u_ws RX5 TX5 6, w ∈ wsX5_init := fun w hw => List.mem_cons_of_mem _ (List.mem_append_right _ hw)
def b_wX5 (g : aG) (h0 : Nat) (f : Nat → Nat) : va_W := [(h0, .inr (5, [.ref (f 4), .ref (f 5), .ref (f 6), .ref (f 7), .ref (f 8), .int 0])), (f 4, .inl (g.1, (8, .inl (fun _ => 0)))), (f 5, .inl (g.1, (8, .inl (fun _ => 0)))), (f 6, .inl (g.1, (8, .inl (fun _ => 0)))), (f 7, .inl (g.1, (8, .inl (fun _ => 0)))), (f 8, .inl (g.1, (8, .inl (fun _ => 0))))]
set_option maxHeartbeats 4000000 in
set_option maxRecDepth 100000 in
/-- Stations() -/
theorem c_X5 (l : Launch) (base : Nat) (D : va_G) (g : aG) (m0 : aM) (h0 sz : Nat) : Met l yX5_init wsX5_init ({ frames := 1, cells := 5, slots := 40, locals := 12 }) (b_Pc base D g m0 h0 (.inr (5, [.null, .null, .null, .null, .null, .int 0])) sz) (b_Qc D h0 (.inr (5, [.null, .null, .null, .null, .null, .int 0])) sz (b_wX5 g h0)) 5 40 (va_A [(h0, (.inr (5, [.null, .null, .null, .null, .null, .int 0])))] sz) := by
  refine Met.ofW (cc := cX5_init) (maxL := 1) (ret := none) (by decide) rfl ?_
  intro p e s m args below meth c s₁ B hml hv
  obtain ⟨rfl, hsz, hP, ⟨hSt, hTb⟩, hbh⟩ := hv
  have hx := B.exec
  have hb := B.bytes
  have hr := B.returns
  have hts := atoms_spec (ws := wsX5_init) B.pre
  have hown : s.vm.findClass RX5 = some m.cls := findClass_of_methodNamed B.named
  have hlocks := B.notSynchronized
  have hin : meth.name = "<init>" := (name_of_methodNamed B.named B.method).1
  subst hsz
  have hK := hSt.1
  have hbs : base ≤ s.heap.size := hSt.2.2.1.2.2
  have hD : va_D (va_A [(h0, (.inr (5, [.null, .null, .null, .null, .null, .int 0])))] s.heap.size) [(h0, (.inr (5, [.null, .null, .null, .null, .null, .int 0])))] := ⟨fun i j x y hx hy _ => by
    have h1 : i < 1 := (List.getElem?_eq_some_iff.mp hx).1
    have h2 : j < 1 := (List.getElem?_eq_some_iff.mp hy).1
    omega, fun k x hx => va_A.in hx⟩
  have hAb : ∀ q, va_A [(h0, (.inr (5, [.null, .null, .null, .null, .null, .int 0])))] s.heap.size q → base ≤ q := by
    intro q h
    rcases h with ⟨k, e2, h⟩ | h
    · have hz : k < 1 := (List.getElem?_eq_some_iff.mp h).1
      rw [show k = 0 by omega] at h
      have hh : (h0, ((.inr (5, [.null, .null, .null, .null, .null, .int 0])) : va_E)) = (q, e2) := Option.some.inj h
      have h3 : h0 = q := congrArg Prod.fst hh
      exact h3 ▸ hbh
    · exact Nat.le_trans hbs h
  unfold b_Qc
  generalize hAe : va_A [(h0, (.inr (5, [.null, .null, .null, .null, .null, .int 0])))] s.heap.size = A at hD hAb ⊢
  have hA : ∀ q : Nat, s.heap.size ≤ q → A q := fun q h => by rw [← hAe]; exact Or.inr h
  have hS : va_S A s.heap s.heap [] := va_S.rf
  have hP : va_P D vwCl [(h0, (.inr (5, [.null, .null, .null, .null, .null, .int 0])))] s.heap := hP
  have hl := lv_entry ([.ref h0]) (n := 1) (Nat.le_of_ble_eq_true rfl)
  rw [lg_entry_eq]
  generalize (lg_sl ([.ref h0]) ++ List.replicate (1 - (lg_sl ([.ref h0])).length) Slot.unset).toArray = ls at hl ⊢
  have hl : lv_has ls 1 [(0, .ref h0)] := hl
  refine lv_aload_n hx hb dX5_init_0 rfl (lv_at hl 0 rfl) ?_
  refine W.objInit hx hb hown (hts (.methodLink RX5 3 objectInit) (by decide +kernel)) (hts (.instanceMethod objectInit) (by decide +kernel)) (hts (.code objectInit ⟨#[0xb1]⟩ 1 none) (by decide +kernel)) rfl (by rw [hml]; exact hl.1) rfl dX5_init_1 (Nat.le_of_ble_eq_true rfl) (Nat.le_of_ble_eq_true rfl) ?_
  refine W.eq (g2 := F0 m 4 ls []) rfl ?_
  refine lv_aload_n hx hb dX5_init_4 rfl (lv_at hl 0 rfl) ?_
  refine lv_bipush (v := 8) hx hb dX5_init_5 (by decide) ?_
  refine b_newi hx hb (hts (.arrayClass .int) (by decide +kernel)) hK 0 rfl hP hD hS hA (N := 8) (by decide) (by decide) (Nat.le_of_ble_eq_true rfl) (Nat.le_of_ble_eq_true rfl) (Nat.le_of_ble_eq_true rfl) dX5_init_7 (fun q0 H hP hD hS => ?_)
  have hP : va_P D vwCl [(h0, .inr (5, [.null, .null, .null, .null, .null, .int 0])), (q0, .inl (g.1, (8, .inl (fun _ => 0))))] H := hP
  have hD : va_D A [(h0, .inr (5, [.null, .null, .null, .null, .null, .int 0])), (q0, .inl (g.1, (8, .inl (fun _ => 0))))] := hD
  refine W.widen (k := 1) (n := 8) (by decide) (by decide) ?_
  refine va_putF (D := D) (ci := 5) (v := .ref q0) (ty := .array .int) (C := RX5) (T := TX5) (N := 6) hx hb hts (fun w hw => in_X5 w hw) tyX5 tyX5_ok nmX5 hown hK hP hD hS 0 rfl rfl 0 (by decide) (hts (.fieldLink RX5 9 "VacantAir$Stations" "x" "[I") (by decide +kernel)) (fun _ h9 => h9) rfl hin rfl (by decide +kernel) rfl rfl (Nat.le_of_ble_eq_true rfl) dX5_init_9 (fun H locs hP hD hS => ?_)
  have hP : va_P D vwCl [(h0, .inr (5, [.ref q0, .null, .null, .null, .null, .int 0])), (q0, .inl (g.1, (8, .inl (fun _ => 0))))] H := hP
  have hD : va_D A [(h0, .inr (5, [.ref q0, .null, .null, .null, .null, .int 0])), (q0, .inl (g.1, (8, .inl (fun _ => 0))))] := hD
  refine lv_aload_n hx hb dX5_init_12 rfl (lv_at hl 0 rfl) ?_
  refine lv_bipush (v := 8) hx hb dX5_init_13 (by decide) ?_
  refine b_newi hx hb (hts (.arrayClass .int) (by decide +kernel)) hK 0 rfl hP hD hS hA (N := 8) (by decide) (by decide) (Nat.le_of_ble_eq_true rfl) (Nat.le_of_ble_eq_true rfl) (Nat.le_of_ble_eq_true rfl) dX5_init_15 (fun q1 H hP hD hS => ?_)
  have hP : va_P D vwCl [(h0, .inr (5, [.ref q0, .null, .null, .null, .null, .int 0])), (q0, .inl (g.1, (8, .inl (fun _ => 0)))), (q1, .inl (g.1, (8, .inl (fun _ => 0))))] H := hP
  have hD : va_D A [(h0, .inr (5, [.ref q0, .null, .null, .null, .null, .int 0])), (q0, .inl (g.1, (8, .inl (fun _ => 0)))), (q1, .inl (g.1, (8, .inl (fun _ => 0))))] := hD
  refine W.widen (k := 2) (n := 16) (by decide) (by decide) ?_
  refine va_putF (D := D) (ci := 5) (v := .ref q1) (ty := .array .int) (C := RX5) (T := TX5) (N := 6) hx hb hts (fun w hw => in_X5 w hw) tyX5 tyX5_ok nmX5 hown hK hP hD hS 0 rfl rfl 1 (by decide) (hts (.fieldLink RX5 15 "VacantAir$Stations" "y" "[I") (by decide +kernel)) (fun _ h9 => h9) rfl hin rfl (by decide +kernel) rfl rfl (Nat.le_of_ble_eq_true rfl) dX5_init_17 (fun H locs hP hD hS => ?_)
  have hP : va_P D vwCl [(h0, .inr (5, [.ref q0, .ref q1, .null, .null, .null, .int 0])), (q0, .inl (g.1, (8, .inl (fun _ => 0)))), (q1, .inl (g.1, (8, .inl (fun _ => 0))))] H := hP
  have hD : va_D A [(h0, .inr (5, [.ref q0, .ref q1, .null, .null, .null, .int 0])), (q0, .inl (g.1, (8, .inl (fun _ => 0)))), (q1, .inl (g.1, (8, .inl (fun _ => 0))))] := hD
  refine lv_aload_n hx hb dX5_init_20 rfl (lv_at hl 0 rfl) ?_
  refine lv_bipush (v := 8) hx hb dX5_init_21 (by decide) ?_
  refine b_newi hx hb (hts (.arrayClass .int) (by decide +kernel)) hK 0 rfl hP hD hS hA (N := 8) (by decide) (by decide) (Nat.le_of_ble_eq_true rfl) (Nat.le_of_ble_eq_true rfl) (Nat.le_of_ble_eq_true rfl) dX5_init_23 (fun q2 H hP hD hS => ?_)
  have hP : va_P D vwCl [(h0, .inr (5, [.ref q0, .ref q1, .null, .null, .null, .int 0])), (q0, .inl (g.1, (8, .inl (fun _ => 0)))), (q1, .inl (g.1, (8, .inl (fun _ => 0)))), (q2, .inl (g.1, (8, .inl (fun _ => 0))))] H := hP
  have hD : va_D A [(h0, .inr (5, [.ref q0, .ref q1, .null, .null, .null, .int 0])), (q0, .inl (g.1, (8, .inl (fun _ => 0)))), (q1, .inl (g.1, (8, .inl (fun _ => 0)))), (q2, .inl (g.1, (8, .inl (fun _ => 0))))] := hD
  refine W.widen (k := 3) (n := 24) (by decide) (by decide) ?_
  refine va_putF (D := D) (ci := 5) (v := .ref q2) (ty := .array .int) (C := RX5) (T := TX5) (N := 6) hx hb hts (fun w hw => in_X5 w hw) tyX5 tyX5_ok nmX5 hown hK hP hD hS 0 rfl rfl 2 (by decide) (hts (.fieldLink RX5 18 "VacantAir$Stations" "channel" "[I") (by decide +kernel)) (fun _ h9 => h9) rfl hin rfl (by decide +kernel) rfl rfl (Nat.le_of_ble_eq_true rfl) dX5_init_25 (fun H locs hP hD hS => ?_)
  have hP : va_P D vwCl [(h0, .inr (5, [.ref q0, .ref q1, .ref q2, .null, .null, .int 0])), (q0, .inl (g.1, (8, .inl (fun _ => 0)))), (q1, .inl (g.1, (8, .inl (fun _ => 0)))), (q2, .inl (g.1, (8, .inl (fun _ => 0))))] H := hP
  have hD : va_D A [(h0, .inr (5, [.ref q0, .ref q1, .ref q2, .null, .null, .int 0])), (q0, .inl (g.1, (8, .inl (fun _ => 0)))), (q1, .inl (g.1, (8, .inl (fun _ => 0)))), (q2, .inl (g.1, (8, .inl (fun _ => 0))))] := hD
  refine lv_aload_n hx hb dX5_init_28 rfl (lv_at hl 0 rfl) ?_
  refine lv_bipush (v := 8) hx hb dX5_init_29 (by decide) ?_
  refine b_newi hx hb (hts (.arrayClass .int) (by decide +kernel)) hK 0 rfl hP hD hS hA (N := 8) (by decide) (by decide) (Nat.le_of_ble_eq_true rfl) (Nat.le_of_ble_eq_true rfl) (Nat.le_of_ble_eq_true rfl) dX5_init_31 (fun q3 H hP hD hS => ?_)
  have hP : va_P D vwCl [(h0, .inr (5, [.ref q0, .ref q1, .ref q2, .null, .null, .int 0])), (q0, .inl (g.1, (8, .inl (fun _ => 0)))), (q1, .inl (g.1, (8, .inl (fun _ => 0)))), (q2, .inl (g.1, (8, .inl (fun _ => 0)))), (q3, .inl (g.1, (8, .inl (fun _ => 0))))] H := hP
  have hD : va_D A [(h0, .inr (5, [.ref q0, .ref q1, .ref q2, .null, .null, .int 0])), (q0, .inl (g.1, (8, .inl (fun _ => 0)))), (q1, .inl (g.1, (8, .inl (fun _ => 0)))), (q2, .inl (g.1, (8, .inl (fun _ => 0)))), (q3, .inl (g.1, (8, .inl (fun _ => 0))))] := hD
  refine W.widen (k := 4) (n := 32) (by decide) (by decide) ?_
  refine va_putF (D := D) (ci := 5) (v := .ref q3) (ty := .array .int) (C := RX5) (T := TX5) (N := 6) hx hb hts (fun w hw => in_X5 w hw) tyX5 tyX5_ok nmX5 hown hK hP hD hS 0 rfl rfl 3 (by decide) (hts (.fieldLink RX5 21 "VacantAir$Stations" "powerClass" "[I") (by decide +kernel)) (fun _ h9 => h9) rfl hin rfl (by decide +kernel) rfl rfl (Nat.le_of_ble_eq_true rfl) dX5_init_33 (fun H locs hP hD hS => ?_)
  have hP : va_P D vwCl [(h0, .inr (5, [.ref q0, .ref q1, .ref q2, .ref q3, .null, .int 0])), (q0, .inl (g.1, (8, .inl (fun _ => 0)))), (q1, .inl (g.1, (8, .inl (fun _ => 0)))), (q2, .inl (g.1, (8, .inl (fun _ => 0)))), (q3, .inl (g.1, (8, .inl (fun _ => 0))))] H := hP
  have hD : va_D A [(h0, .inr (5, [.ref q0, .ref q1, .ref q2, .ref q3, .null, .int 0])), (q0, .inl (g.1, (8, .inl (fun _ => 0)))), (q1, .inl (g.1, (8, .inl (fun _ => 0)))), (q2, .inl (g.1, (8, .inl (fun _ => 0)))), (q3, .inl (g.1, (8, .inl (fun _ => 0))))] := hD
  refine lv_aload_n hx hb dX5_init_36 rfl (lv_at hl 0 rfl) ?_
  refine lv_bipush (v := 8) hx hb dX5_init_37 (by decide) ?_
  refine b_newi hx hb (hts (.arrayClass .int) (by decide +kernel)) hK 0 rfl hP hD hS hA (N := 8) (by decide) (by decide) (Nat.le_of_ble_eq_true rfl) (Nat.le_of_ble_eq_true rfl) (Nat.le_of_ble_eq_true rfl) dX5_init_39 (fun q4 H hP hD hS => ?_)
  have hP : va_P D vwCl [(h0, .inr (5, [.ref q0, .ref q1, .ref q2, .ref q3, .null, .int 0])), (q0, .inl (g.1, (8, .inl (fun _ => 0)))), (q1, .inl (g.1, (8, .inl (fun _ => 0)))), (q2, .inl (g.1, (8, .inl (fun _ => 0)))), (q3, .inl (g.1, (8, .inl (fun _ => 0)))), (q4, .inl (g.1, (8, .inl (fun _ => 0))))] H := hP
  have hD : va_D A [(h0, .inr (5, [.ref q0, .ref q1, .ref q2, .ref q3, .null, .int 0])), (q0, .inl (g.1, (8, .inl (fun _ => 0)))), (q1, .inl (g.1, (8, .inl (fun _ => 0)))), (q2, .inl (g.1, (8, .inl (fun _ => 0)))), (q3, .inl (g.1, (8, .inl (fun _ => 0)))), (q4, .inl (g.1, (8, .inl (fun _ => 0))))] := hD
  refine W.widen (k := 5) (n := 40) (by decide) (by decide) ?_
  refine va_putF (D := D) (ci := 5) (v := .ref q4) (ty := .array .int) (C := RX5) (T := TX5) (N := 6) hx hb hts (fun w hw => in_X5 w hw) tyX5 tyX5_ok nmX5 hown hK hP hD hS 0 rfl rfl 4 (by decide) (hts (.fieldLink RX5 24 "VacantAir$Stations" "awake" "[I") (by decide +kernel)) (fun _ h9 => h9) rfl hin rfl (by decide +kernel) rfl rfl (Nat.le_of_ble_eq_true rfl) dX5_init_41 (fun H locs hP hD hS => ?_)
  have hP : va_P D vwCl [(h0, .inr (5, [.ref q0, .ref q1, .ref q2, .ref q3, .ref q4, .int 0])), (q0, .inl (g.1, (8, .inl (fun _ => 0)))), (q1, .inl (g.1, (8, .inl (fun _ => 0)))), (q2, .inl (g.1, (8, .inl (fun _ => 0)))), (q3, .inl (g.1, (8, .inl (fun _ => 0)))), (q4, .inl (g.1, (8, .inl (fun _ => 0))))] H := hP
  have hD : va_D A [(h0, .inr (5, [.ref q0, .ref q1, .ref q2, .ref q3, .ref q4, .int 0])), (q0, .inl (g.1, (8, .inl (fun _ => 0)))), (q1, .inl (g.1, (8, .inl (fun _ => 0)))), (q2, .inl (g.1, (8, .inl (fun _ => 0)))), (q3, .inl (g.1, (8, .inl (fun _ => 0)))), (q4, .inl (g.1, (8, .inl (fun _ => 0))))] := hD
  refine W.vret hx hb hr (fun t ht hW => ⟨⟨fun i => [q0, q1, q2, q3, q4].getD (i - 4) 0, rfl, trivial, ?_, ?_⟩, hS.F ht⟩) hS.2.2 dX5_init_44
  · rw [ht]; exact hP
  · exact hD
theorem in_X2 : ∀ w ∈ u_ws RX2 TX2 8, w ∈ wsX2_init := fun w hw => List.mem_cons_of_mem _ (List.mem_append_right _ hw)
def b_wX2 (g : aG) (h0 : Nat) (f : Nat → Nat) : va_W := [(h0, .inr (2, [.ref (f 9), .ref (f 10), .ref (f 11), .ref (f 12), .ref (f 13), .ref (f 14), .ref (f 15), .int 0])), (f 9, .inl (g.1, (8, .inl (fun _ => 0)))), (f 10, .inl (g.1, (8, .inl (fun _ => 0)))), (f 11, .inl (g.1, (8, .inl (fun _ => 0)))), (f 12, .inl (g.1, (8, .inl (fun _ => 0)))), (f 13, .inl (g.1, (8, .inl (fun _ => 0)))), (f 14, .inl (g.1, (8, .inl (fun _ => 0)))), (f 15, .inl (g.1, (8, .inl (fun _ => 0))))]
set_option maxHeartbeats 4000000 in
set_option maxRecDepth 100000 in
/-- Events() -/
theorem c_X2 (l : Launch) (base : Nat) (D : va_G) (g : aG) (m0 : aM) (h0 sz : Nat) : Met l yX2_init wsX2_init ({ frames := 1, cells := 7, slots := 56, locals := 12 }) (b_Pc base D g m0 h0 (.inr (2, [.null, .null, .null, .null, .null, .null, .null, .int 0])) sz) (b_Qc D h0 (.inr (2, [.null, .null, .null, .null, .null, .null, .null, .int 0])) sz (b_wX2 g h0)) 7 56 (va_A [(h0, (.inr (2, [.null, .null, .null, .null, .null, .null, .null, .int 0])))] sz) := by
  refine Met.ofW (cc := cX2_init) (maxL := 1) (ret := none) (by decide) rfl ?_
  intro p e s m args below meth c s₁ B hml hv
  obtain ⟨rfl, hsz, hP, ⟨hSt, hTb⟩, hbh⟩ := hv
  have hx := B.exec
  have hb := B.bytes
  have hr := B.returns
  have hts := atoms_spec (ws := wsX2_init) B.pre
  have hown : s.vm.findClass RX2 = some m.cls := findClass_of_methodNamed B.named
  have hlocks := B.notSynchronized
  have hin : meth.name = "<init>" := (name_of_methodNamed B.named B.method).1
  subst hsz
  have hK := hSt.1
  have hbs : base ≤ s.heap.size := hSt.2.2.1.2.2
  have hD : va_D (va_A [(h0, (.inr (2, [.null, .null, .null, .null, .null, .null, .null, .int 0])))] s.heap.size) [(h0, (.inr (2, [.null, .null, .null, .null, .null, .null, .null, .int 0])))] := ⟨fun i j x y hx hy _ => by
    have h1 : i < 1 := (List.getElem?_eq_some_iff.mp hx).1
    have h2 : j < 1 := (List.getElem?_eq_some_iff.mp hy).1
    omega, fun k x hx => va_A.in hx⟩
  have hAb : ∀ q, va_A [(h0, (.inr (2, [.null, .null, .null, .null, .null, .null, .null, .int 0])))] s.heap.size q → base ≤ q := by
    intro q h
    rcases h with ⟨k, e2, h⟩ | h
    · have hz : k < 1 := (List.getElem?_eq_some_iff.mp h).1
      rw [show k = 0 by omega] at h
      have hh : (h0, ((.inr (2, [.null, .null, .null, .null, .null, .null, .null, .int 0])) : va_E)) = (q, e2) := Option.some.inj h
      have h3 : h0 = q := congrArg Prod.fst hh
      exact h3 ▸ hbh
    · exact Nat.le_trans hbs h
  unfold b_Qc
  generalize hAe : va_A [(h0, (.inr (2, [.null, .null, .null, .null, .null, .null, .null, .int 0])))] s.heap.size = A at hD hAb ⊢
  have hA : ∀ q : Nat, s.heap.size ≤ q → A q := fun q h => by rw [← hAe]; exact Or.inr h
  have hS : va_S A s.heap s.heap [] := va_S.rf
  have hP : va_P D vwCl [(h0, (.inr (2, [.null, .null, .null, .null, .null, .null, .null, .int 0])))] s.heap := hP
  have hl := lv_entry ([.ref h0]) (n := 1) (Nat.le_of_ble_eq_true rfl)
  rw [lg_entry_eq]
  generalize (lg_sl ([.ref h0]) ++ List.replicate (1 - (lg_sl ([.ref h0])).length) Slot.unset).toArray = ls at hl ⊢
  have hl : lv_has ls 1 [(0, .ref h0)] := hl
  refine lv_aload_n hx hb dX2_init_0 rfl (lv_at hl 0 rfl) ?_
  refine W.objInit hx hb hown (hts (.methodLink RX2 3 objectInit) (by decide +kernel)) (hts (.instanceMethod objectInit) (by decide +kernel)) (hts (.code objectInit ⟨#[0xb1]⟩ 1 none) (by decide +kernel)) rfl (by rw [hml]; exact hl.1) rfl dX2_init_1 (Nat.le_of_ble_eq_true rfl) (Nat.le_of_ble_eq_true rfl) ?_
  refine W.eq (g2 := F0 m 4 ls []) rfl ?_
  refine lv_aload_n hx hb dX2_init_4 rfl (lv_at hl 0 rfl) ?_
  refine lv_bipush (v := 8) hx hb dX2_init_5 (by decide) ?_
  refine b_newi hx hb (hts (.arrayClass .int) (by decide +kernel)) hK 0 rfl hP hD hS hA (N := 8) (by decide) (by decide) (Nat.le_of_ble_eq_true rfl) (Nat.le_of_ble_eq_true rfl) (Nat.le_of_ble_eq_true rfl) dX2_init_7 (fun q0 H hP hD hS => ?_)
  have hP : va_P D vwCl [(h0, .inr (2, [.null, .null, .null, .null, .null, .null, .null, .int 0])), (q0, .inl (g.1, (8, .inl (fun _ => 0))))] H := hP
  have hD : va_D A [(h0, .inr (2, [.null, .null, .null, .null, .null, .null, .null, .int 0])), (q0, .inl (g.1, (8, .inl (fun _ => 0))))] := hD
  refine W.widen (k := 1) (n := 8) (by decide) (by decide) ?_
  refine va_putF (D := D) (ci := 2) (v := .ref q0) (ty := .array .int) (C := RX2) (T := TX2) (N := 8) hx hb hts (fun w hw => in_X2 w hw) tyX2 tyX2_ok nmX2 hown hK hP hD hS 0 rfl rfl 0 (by decide) (hts (.fieldLink RX2 9 "VacantAir$Events" "x" "[I") (by decide +kernel)) (fun _ h9 => h9) rfl hin rfl (by decide +kernel) rfl rfl (Nat.le_of_ble_eq_true rfl) dX2_init_9 (fun H locs hP hD hS => ?_)
  have hP : va_P D vwCl [(h0, .inr (2, [.ref q0, .null, .null, .null, .null, .null, .null, .int 0])), (q0, .inl (g.1, (8, .inl (fun _ => 0))))] H := hP
  have hD : va_D A [(h0, .inr (2, [.ref q0, .null, .null, .null, .null, .null, .null, .int 0])), (q0, .inl (g.1, (8, .inl (fun _ => 0))))] := hD
  refine lv_aload_n hx hb dX2_init_12 rfl (lv_at hl 0 rfl) ?_
  refine lv_bipush (v := 8) hx hb dX2_init_13 (by decide) ?_
  refine b_newi hx hb (hts (.arrayClass .int) (by decide +kernel)) hK 0 rfl hP hD hS hA (N := 8) (by decide) (by decide) (Nat.le_of_ble_eq_true rfl) (Nat.le_of_ble_eq_true rfl) (Nat.le_of_ble_eq_true rfl) dX2_init_15 (fun q1 H hP hD hS => ?_)
  have hP : va_P D vwCl [(h0, .inr (2, [.ref q0, .null, .null, .null, .null, .null, .null, .int 0])), (q0, .inl (g.1, (8, .inl (fun _ => 0)))), (q1, .inl (g.1, (8, .inl (fun _ => 0))))] H := hP
  have hD : va_D A [(h0, .inr (2, [.ref q0, .null, .null, .null, .null, .null, .null, .int 0])), (q0, .inl (g.1, (8, .inl (fun _ => 0)))), (q1, .inl (g.1, (8, .inl (fun _ => 0))))] := hD
  refine W.widen (k := 2) (n := 16) (by decide) (by decide) ?_
  refine va_putF (D := D) (ci := 2) (v := .ref q1) (ty := .array .int) (C := RX2) (T := TX2) (N := 8) hx hb hts (fun w hw => in_X2 w hw) tyX2 tyX2_ok nmX2 hown hK hP hD hS 0 rfl rfl 1 (by decide) (hts (.fieldLink RX2 15 "VacantAir$Events" "y" "[I") (by decide +kernel)) (fun _ h9 => h9) rfl hin rfl (by decide +kernel) rfl rfl (Nat.le_of_ble_eq_true rfl) dX2_init_17 (fun H locs hP hD hS => ?_)
  have hP : va_P D vwCl [(h0, .inr (2, [.ref q0, .ref q1, .null, .null, .null, .null, .null, .int 0])), (q0, .inl (g.1, (8, .inl (fun _ => 0)))), (q1, .inl (g.1, (8, .inl (fun _ => 0))))] H := hP
  have hD : va_D A [(h0, .inr (2, [.ref q0, .ref q1, .null, .null, .null, .null, .null, .int 0])), (q0, .inl (g.1, (8, .inl (fun _ => 0)))), (q1, .inl (g.1, (8, .inl (fun _ => 0))))] := hD
  refine lv_aload_n hx hb dX2_init_20 rfl (lv_at hl 0 rfl) ?_
  refine lv_bipush (v := 8) hx hb dX2_init_21 (by decide) ?_
  refine b_newi hx hb (hts (.arrayClass .int) (by decide +kernel)) hK 0 rfl hP hD hS hA (N := 8) (by decide) (by decide) (Nat.le_of_ble_eq_true rfl) (Nat.le_of_ble_eq_true rfl) (Nat.le_of_ble_eq_true rfl) dX2_init_23 (fun q2 H hP hD hS => ?_)
  have hP : va_P D vwCl [(h0, .inr (2, [.ref q0, .ref q1, .null, .null, .null, .null, .null, .int 0])), (q0, .inl (g.1, (8, .inl (fun _ => 0)))), (q1, .inl (g.1, (8, .inl (fun _ => 0)))), (q2, .inl (g.1, (8, .inl (fun _ => 0))))] H := hP
  have hD : va_D A [(h0, .inr (2, [.ref q0, .ref q1, .null, .null, .null, .null, .null, .int 0])), (q0, .inl (g.1, (8, .inl (fun _ => 0)))), (q1, .inl (g.1, (8, .inl (fun _ => 0)))), (q2, .inl (g.1, (8, .inl (fun _ => 0))))] := hD
  refine W.widen (k := 3) (n := 24) (by decide) (by decide) ?_
  refine va_putF (D := D) (ci := 2) (v := .ref q2) (ty := .array .int) (C := RX2) (T := TX2) (N := 8) hx hb hts (fun w hw => in_X2 w hw) tyX2 tyX2_ok nmX2 hown hK hP hD hS 0 rfl rfl 2 (by decide) (hts (.fieldLink RX2 18 "VacantAir$Events" "radius" "[I") (by decide +kernel)) (fun _ h9 => h9) rfl hin rfl (by decide +kernel) rfl rfl (Nat.le_of_ble_eq_true rfl) dX2_init_25 (fun H locs hP hD hS => ?_)
  have hP : va_P D vwCl [(h0, .inr (2, [.ref q0, .ref q1, .ref q2, .null, .null, .null, .null, .int 0])), (q0, .inl (g.1, (8, .inl (fun _ => 0)))), (q1, .inl (g.1, (8, .inl (fun _ => 0)))), (q2, .inl (g.1, (8, .inl (fun _ => 0))))] H := hP
  have hD : va_D A [(h0, .inr (2, [.ref q0, .ref q1, .ref q2, .null, .null, .null, .null, .int 0])), (q0, .inl (g.1, (8, .inl (fun _ => 0)))), (q1, .inl (g.1, (8, .inl (fun _ => 0)))), (q2, .inl (g.1, (8, .inl (fun _ => 0))))] := hD
  refine lv_aload_n hx hb dX2_init_28 rfl (lv_at hl 0 rfl) ?_
  refine lv_bipush (v := 8) hx hb dX2_init_29 (by decide) ?_
  refine b_newi hx hb (hts (.arrayClass .int) (by decide +kernel)) hK 0 rfl hP hD hS hA (N := 8) (by decide) (by decide) (Nat.le_of_ble_eq_true rfl) (Nat.le_of_ble_eq_true rfl) (Nat.le_of_ble_eq_true rfl) dX2_init_31 (fun q3 H hP hD hS => ?_)
  have hP : va_P D vwCl [(h0, .inr (2, [.ref q0, .ref q1, .ref q2, .null, .null, .null, .null, .int 0])), (q0, .inl (g.1, (8, .inl (fun _ => 0)))), (q1, .inl (g.1, (8, .inl (fun _ => 0)))), (q2, .inl (g.1, (8, .inl (fun _ => 0)))), (q3, .inl (g.1, (8, .inl (fun _ => 0))))] H := hP
  have hD : va_D A [(h0, .inr (2, [.ref q0, .ref q1, .ref q2, .null, .null, .null, .null, .int 0])), (q0, .inl (g.1, (8, .inl (fun _ => 0)))), (q1, .inl (g.1, (8, .inl (fun _ => 0)))), (q2, .inl (g.1, (8, .inl (fun _ => 0)))), (q3, .inl (g.1, (8, .inl (fun _ => 0))))] := hD
  refine W.widen (k := 4) (n := 32) (by decide) (by decide) ?_
  refine va_putF (D := D) (ci := 2) (v := .ref q3) (ty := .array .int) (C := RX2) (T := TX2) (N := 8) hx hb hts (fun w hw => in_X2 w hw) tyX2 tyX2_ok nmX2 hown hK hP hD hS 0 rfl rfl 3 (by decide) (hts (.fieldLink RX2 21 "VacantAir$Events" "channel" "[I") (by decide +kernel)) (fun _ h9 => h9) rfl hin rfl (by decide +kernel) rfl rfl (Nat.le_of_ble_eq_true rfl) dX2_init_33 (fun H locs hP hD hS => ?_)
  have hP : va_P D vwCl [(h0, .inr (2, [.ref q0, .ref q1, .ref q2, .ref q3, .null, .null, .null, .int 0])), (q0, .inl (g.1, (8, .inl (fun _ => 0)))), (q1, .inl (g.1, (8, .inl (fun _ => 0)))), (q2, .inl (g.1, (8, .inl (fun _ => 0)))), (q3, .inl (g.1, (8, .inl (fun _ => 0))))] H := hP
  have hD : va_D A [(h0, .inr (2, [.ref q0, .ref q1, .ref q2, .ref q3, .null, .null, .null, .int 0])), (q0, .inl (g.1, (8, .inl (fun _ => 0)))), (q1, .inl (g.1, (8, .inl (fun _ => 0)))), (q2, .inl (g.1, (8, .inl (fun _ => 0)))), (q3, .inl (g.1, (8, .inl (fun _ => 0))))] := hD
  refine lv_aload_n hx hb dX2_init_36 rfl (lv_at hl 0 rfl) ?_
  refine lv_bipush (v := 8) hx hb dX2_init_37 (by decide) ?_
  refine b_newi hx hb (hts (.arrayClass .int) (by decide +kernel)) hK 0 rfl hP hD hS hA (N := 8) (by decide) (by decide) (Nat.le_of_ble_eq_true rfl) (Nat.le_of_ble_eq_true rfl) (Nat.le_of_ble_eq_true rfl) dX2_init_39 (fun q4 H hP hD hS => ?_)
  have hP : va_P D vwCl [(h0, .inr (2, [.ref q0, .ref q1, .ref q2, .ref q3, .null, .null, .null, .int 0])), (q0, .inl (g.1, (8, .inl (fun _ => 0)))), (q1, .inl (g.1, (8, .inl (fun _ => 0)))), (q2, .inl (g.1, (8, .inl (fun _ => 0)))), (q3, .inl (g.1, (8, .inl (fun _ => 0)))), (q4, .inl (g.1, (8, .inl (fun _ => 0))))] H := hP
  have hD : va_D A [(h0, .inr (2, [.ref q0, .ref q1, .ref q2, .ref q3, .null, .null, .null, .int 0])), (q0, .inl (g.1, (8, .inl (fun _ => 0)))), (q1, .inl (g.1, (8, .inl (fun _ => 0)))), (q2, .inl (g.1, (8, .inl (fun _ => 0)))), (q3, .inl (g.1, (8, .inl (fun _ => 0)))), (q4, .inl (g.1, (8, .inl (fun _ => 0))))] := hD
  refine W.widen (k := 5) (n := 40) (by decide) (by decide) ?_
  refine va_putF (D := D) (ci := 2) (v := .ref q4) (ty := .array .int) (C := RX2) (T := TX2) (N := 8) hx hb hts (fun w hw => in_X2 w hw) tyX2 tyX2_ok nmX2 hown hK hP hD hS 0 rfl rfl 4 (by decide) (hts (.fieldLink RX2 24 "VacantAir$Events" "from" "[I") (by decide +kernel)) (fun _ h9 => h9) rfl hin rfl (by decide +kernel) rfl rfl (Nat.le_of_ble_eq_true rfl) dX2_init_41 (fun H locs hP hD hS => ?_)
  have hP : va_P D vwCl [(h0, .inr (2, [.ref q0, .ref q1, .ref q2, .ref q3, .ref q4, .null, .null, .int 0])), (q0, .inl (g.1, (8, .inl (fun _ => 0)))), (q1, .inl (g.1, (8, .inl (fun _ => 0)))), (q2, .inl (g.1, (8, .inl (fun _ => 0)))), (q3, .inl (g.1, (8, .inl (fun _ => 0)))), (q4, .inl (g.1, (8, .inl (fun _ => 0))))] H := hP
  have hD : va_D A [(h0, .inr (2, [.ref q0, .ref q1, .ref q2, .ref q3, .ref q4, .null, .null, .int 0])), (q0, .inl (g.1, (8, .inl (fun _ => 0)))), (q1, .inl (g.1, (8, .inl (fun _ => 0)))), (q2, .inl (g.1, (8, .inl (fun _ => 0)))), (q3, .inl (g.1, (8, .inl (fun _ => 0)))), (q4, .inl (g.1, (8, .inl (fun _ => 0))))] := hD
  refine lv_aload_n hx hb dX2_init_44 rfl (lv_at hl 0 rfl) ?_
  refine lv_bipush (v := 8) hx hb dX2_init_45 (by decide) ?_
  refine b_newi hx hb (hts (.arrayClass .int) (by decide +kernel)) hK 0 rfl hP hD hS hA (N := 8) (by decide) (by decide) (Nat.le_of_ble_eq_true rfl) (Nat.le_of_ble_eq_true rfl) (Nat.le_of_ble_eq_true rfl) dX2_init_47 (fun q5 H hP hD hS => ?_)
  have hP : va_P D vwCl [(h0, .inr (2, [.ref q0, .ref q1, .ref q2, .ref q3, .ref q4, .null, .null, .int 0])), (q0, .inl (g.1, (8, .inl (fun _ => 0)))), (q1, .inl (g.1, (8, .inl (fun _ => 0)))), (q2, .inl (g.1, (8, .inl (fun _ => 0)))), (q3, .inl (g.1, (8, .inl (fun _ => 0)))), (q4, .inl (g.1, (8, .inl (fun _ => 0)))), (q5, .inl (g.1, (8, .inl (fun _ => 0))))] H := hP
  have hD : va_D A [(h0, .inr (2, [.ref q0, .ref q1, .ref q2, .ref q3, .ref q4, .null, .null, .int 0])), (q0, .inl (g.1, (8, .inl (fun _ => 0)))), (q1, .inl (g.1, (8, .inl (fun _ => 0)))), (q2, .inl (g.1, (8, .inl (fun _ => 0)))), (q3, .inl (g.1, (8, .inl (fun _ => 0)))), (q4, .inl (g.1, (8, .inl (fun _ => 0)))), (q5, .inl (g.1, (8, .inl (fun _ => 0))))] := hD
  refine W.widen (k := 6) (n := 48) (by decide) (by decide) ?_
  refine va_putF (D := D) (ci := 2) (v := .ref q5) (ty := .array .int) (C := RX2) (T := TX2) (N := 8) hx hb hts (fun w hw => in_X2 w hw) tyX2 tyX2_ok nmX2 hown hK hP hD hS 0 rfl rfl 5 (by decide) (hts (.fieldLink RX2 27 "VacantAir$Events" "to" "[I") (by decide +kernel)) (fun _ h9 => h9) rfl hin rfl (by decide +kernel) rfl rfl (Nat.le_of_ble_eq_true rfl) dX2_init_49 (fun H locs hP hD hS => ?_)
  have hP : va_P D vwCl [(h0, .inr (2, [.ref q0, .ref q1, .ref q2, .ref q3, .ref q4, .ref q5, .null, .int 0])), (q0, .inl (g.1, (8, .inl (fun _ => 0)))), (q1, .inl (g.1, (8, .inl (fun _ => 0)))), (q2, .inl (g.1, (8, .inl (fun _ => 0)))), (q3, .inl (g.1, (8, .inl (fun _ => 0)))), (q4, .inl (g.1, (8, .inl (fun _ => 0)))), (q5, .inl (g.1, (8, .inl (fun _ => 0))))] H := hP
  have hD : va_D A [(h0, .inr (2, [.ref q0, .ref q1, .ref q2, .ref q3, .ref q4, .ref q5, .null, .int 0])), (q0, .inl (g.1, (8, .inl (fun _ => 0)))), (q1, .inl (g.1, (8, .inl (fun _ => 0)))), (q2, .inl (g.1, (8, .inl (fun _ => 0)))), (q3, .inl (g.1, (8, .inl (fun _ => 0)))), (q4, .inl (g.1, (8, .inl (fun _ => 0)))), (q5, .inl (g.1, (8, .inl (fun _ => 0))))] := hD
  refine lv_aload_n hx hb dX2_init_52 rfl (lv_at hl 0 rfl) ?_
  refine lv_bipush (v := 8) hx hb dX2_init_53 (by decide) ?_
  refine b_newi hx hb (hts (.arrayClass .int) (by decide +kernel)) hK 0 rfl hP hD hS hA (N := 8) (by decide) (by decide) (Nat.le_of_ble_eq_true rfl) (Nat.le_of_ble_eq_true rfl) (Nat.le_of_ble_eq_true rfl) dX2_init_55 (fun q6 H hP hD hS => ?_)
  have hP : va_P D vwCl [(h0, .inr (2, [.ref q0, .ref q1, .ref q2, .ref q3, .ref q4, .ref q5, .null, .int 0])), (q0, .inl (g.1, (8, .inl (fun _ => 0)))), (q1, .inl (g.1, (8, .inl (fun _ => 0)))), (q2, .inl (g.1, (8, .inl (fun _ => 0)))), (q3, .inl (g.1, (8, .inl (fun _ => 0)))), (q4, .inl (g.1, (8, .inl (fun _ => 0)))), (q5, .inl (g.1, (8, .inl (fun _ => 0)))), (q6, .inl (g.1, (8, .inl (fun _ => 0))))] H := hP
  have hD : va_D A [(h0, .inr (2, [.ref q0, .ref q1, .ref q2, .ref q3, .ref q4, .ref q5, .null, .int 0])), (q0, .inl (g.1, (8, .inl (fun _ => 0)))), (q1, .inl (g.1, (8, .inl (fun _ => 0)))), (q2, .inl (g.1, (8, .inl (fun _ => 0)))), (q3, .inl (g.1, (8, .inl (fun _ => 0)))), (q4, .inl (g.1, (8, .inl (fun _ => 0)))), (q5, .inl (g.1, (8, .inl (fun _ => 0)))), (q6, .inl (g.1, (8, .inl (fun _ => 0))))] := hD
  refine W.widen (k := 7) (n := 56) (by decide) (by decide) ?_
  refine va_putF (D := D) (ci := 2) (v := .ref q6) (ty := .array .int) (C := RX2) (T := TX2) (N := 8) hx hb hts (fun w hw => in_X2 w hw) tyX2 tyX2_ok nmX2 hown hK hP hD hS 0 rfl rfl 6 (by decide) (hts (.fieldLink RX2 30 "VacantAir$Events" "cancelled" "[I") (by decide +kernel)) (fun _ h9 => h9) rfl hin rfl (by decide +kernel) rfl rfl (Nat.le_of_ble_eq_true rfl) dX2_init_57 (fun H locs hP hD hS => ?_)
  have hP : va_P D vwCl [(h0, .inr (2, [.ref q0, .ref q1, .ref q2, .ref q3, .ref q4, .ref q5, .ref q6, .int 0])), (q0, .inl (g.1, (8, .inl (fun _ => 0)))), (q1, .inl (g.1, (8, .inl (fun _ => 0)))), (q2, .inl (g.1, (8, .inl (fun _ => 0)))), (q3, .inl (g.1, (8, .inl (fun _ => 0)))), (q4, .inl (g.1, (8, .inl (fun _ => 0)))), (q5, .inl (g.1, (8, .inl (fun _ => 0)))), (q6, .inl (g.1, (8, .inl (fun _ => 0))))] H := hP
  have hD : va_D A [(h0, .inr (2, [.ref q0, .ref q1, .ref q2, .ref q3, .ref q4, .ref q5, .ref q6, .int 0])), (q0, .inl (g.1, (8, .inl (fun _ => 0)))), (q1, .inl (g.1, (8, .inl (fun _ => 0)))), (q2, .inl (g.1, (8, .inl (fun _ => 0)))), (q3, .inl (g.1, (8, .inl (fun _ => 0)))), (q4, .inl (g.1, (8, .inl (fun _ => 0)))), (q5, .inl (g.1, (8, .inl (fun _ => 0)))), (q6, .inl (g.1, (8, .inl (fun _ => 0))))] := hD
  refine W.vret hx hb hr (fun t ht hW => ⟨⟨fun i => [q0, q1, q2, q3, q4, q5, q6].getD (i - 9) 0, rfl, trivial, ?_, ?_⟩, hS.F ht⟩) hS.2.2 dX2_init_60
  · rw [ht]; exact hP
  · exact hD
theorem in_X1 : ∀ w ∈ u_ws RX1 TX1 11, w ∈ wsX1_init := fun w hw => List.mem_cons_of_mem _ (List.mem_append_right _ hw)
def b_wX1 (g : aG) (h0 : Nat) (f : Nat → Nat) : va_W := [(h0, .inr (1, [.ref (f 16), .ref (f 17), .ref (f 18), .ref (f 19), .ref (f 20), .ref (f 21), .ref (f 22), .ref (f 23), .ref (f 24), .ref (f 25), .int 0])), (f 16, .inl (g.1, (16, .inl (fun _ => 0)))), (f 17, .inl (g.1, (16, .inl (fun _ => 0)))), (f 18, .inl (g.1, (16, .inl (fun _ => 0)))), (f 19, .inl (g.1, (16, .inl (fun _ => 0)))), (f 20, .inl (g.1, (16, .inl (fun _ => 0)))), (f 21, .inl (g.1, (16, .inl (fun _ => 0)))), (f 22, .inl (g.1, (16, .inl (fun _ => 0)))), (f 23, .inl (g.1, (16, .inl (fun _ => 0)))), (f 24, .inl (g.1, (16, .inl (fun _ => 0)))), (f 25, .inl (g.1, (16, .inl (fun _ => 0))))]
set_option maxHeartbeats 4000000 in
set_option maxRecDepth 100000 in
/-- Devices() -/
theorem c_X1 (l : Launch) (base : Nat) (D : va_G) (g : aG) (m0 : aM) (h0 sz : Nat) : Met l yX1_init wsX1_init ({ frames := 1, cells := 10, slots := 160, locals := 12 }) (b_Pc base D g m0 h0 (.inr (1, [.null, .null, .null, .null, .null, .null, .null, .null, .null, .null, .int 0])) sz) (b_Qc D h0 (.inr (1, [.null, .null, .null, .null, .null, .null, .null, .null, .null, .null, .int 0])) sz (b_wX1 g h0)) 10 160 (va_A [(h0, (.inr (1, [.null, .null, .null, .null, .null, .null, .null, .null, .null, .null, .int 0])))] sz) := by
  refine Met.ofW (cc := cX1_init) (maxL := 1) (ret := none) (by decide) rfl ?_
  intro p e s m args below meth c s₁ B hml hv
  obtain ⟨rfl, hsz, hP, ⟨hSt, hTb⟩, hbh⟩ := hv
  have hx := B.exec
  have hb := B.bytes
  have hr := B.returns
  have hts := atoms_spec (ws := wsX1_init) B.pre
  have hown : s.vm.findClass RX1 = some m.cls := findClass_of_methodNamed B.named
  have hlocks := B.notSynchronized
  have hin : meth.name = "<init>" := (name_of_methodNamed B.named B.method).1
  subst hsz
  have hK := hSt.1
  have hbs : base ≤ s.heap.size := hSt.2.2.1.2.2
  have hD : va_D (va_A [(h0, (.inr (1, [.null, .null, .null, .null, .null, .null, .null, .null, .null, .null, .int 0])))] s.heap.size) [(h0, (.inr (1, [.null, .null, .null, .null, .null, .null, .null, .null, .null, .null, .int 0])))] := ⟨fun i j x y hx hy _ => by
    have h1 : i < 1 := (List.getElem?_eq_some_iff.mp hx).1
    have h2 : j < 1 := (List.getElem?_eq_some_iff.mp hy).1
    omega, fun k x hx => va_A.in hx⟩
  have hAb : ∀ q, va_A [(h0, (.inr (1, [.null, .null, .null, .null, .null, .null, .null, .null, .null, .null, .int 0])))] s.heap.size q → base ≤ q := by
    intro q h
    rcases h with ⟨k, e2, h⟩ | h
    · have hz : k < 1 := (List.getElem?_eq_some_iff.mp h).1
      rw [show k = 0 by omega] at h
      have hh : (h0, ((.inr (1, [.null, .null, .null, .null, .null, .null, .null, .null, .null, .null, .int 0])) : va_E)) = (q, e2) := Option.some.inj h
      have h3 : h0 = q := congrArg Prod.fst hh
      exact h3 ▸ hbh
    · exact Nat.le_trans hbs h
  unfold b_Qc
  generalize hAe : va_A [(h0, (.inr (1, [.null, .null, .null, .null, .null, .null, .null, .null, .null, .null, .int 0])))] s.heap.size = A at hD hAb ⊢
  have hA : ∀ q : Nat, s.heap.size ≤ q → A q := fun q h => by rw [← hAe]; exact Or.inr h
  have hS : va_S A s.heap s.heap [] := va_S.rf
  have hP : va_P D vwCl [(h0, (.inr (1, [.null, .null, .null, .null, .null, .null, .null, .null, .null, .null, .int 0])))] s.heap := hP
  have hl := lv_entry ([.ref h0]) (n := 1) (Nat.le_of_ble_eq_true rfl)
  rw [lg_entry_eq]
  generalize (lg_sl ([.ref h0]) ++ List.replicate (1 - (lg_sl ([.ref h0])).length) Slot.unset).toArray = ls at hl ⊢
  have hl : lv_has ls 1 [(0, .ref h0)] := hl
  refine lv_aload_n hx hb dX1_init_0 rfl (lv_at hl 0 rfl) ?_
  refine W.objInit hx hb hown (hts (.methodLink RX1 3 objectInit) (by decide +kernel)) (hts (.instanceMethod objectInit) (by decide +kernel)) (hts (.code objectInit ⟨#[0xb1]⟩ 1 none) (by decide +kernel)) rfl (by rw [hml]; exact hl.1) rfl dX1_init_1 (Nat.le_of_ble_eq_true rfl) (Nat.le_of_ble_eq_true rfl) ?_
  refine W.eq (g2 := F0 m 4 ls []) rfl ?_
  refine lv_aload_n hx hb dX1_init_4 rfl (lv_at hl 0 rfl) ?_
  refine lv_bipush (v := 16) hx hb dX1_init_5 (by decide) ?_
  refine b_newi hx hb (hts (.arrayClass .int) (by decide +kernel)) hK 0 rfl hP hD hS hA (N := 16) (by decide) (by decide) (Nat.le_of_ble_eq_true rfl) (Nat.le_of_ble_eq_true rfl) (Nat.le_of_ble_eq_true rfl) dX1_init_7 (fun q0 H hP hD hS => ?_)
  have hP : va_P D vwCl [(h0, .inr (1, [.null, .null, .null, .null, .null, .null, .null, .null, .null, .null, .int 0])), (q0, .inl (g.1, (16, .inl (fun _ => 0))))] H := hP
  have hD : va_D A [(h0, .inr (1, [.null, .null, .null, .null, .null, .null, .null, .null, .null, .null, .int 0])), (q0, .inl (g.1, (16, .inl (fun _ => 0))))] := hD
  refine W.widen (k := 1) (n := 16) (by decide) (by decide) ?_
  refine va_putF (D := D) (ci := 1) (v := .ref q0) (ty := .array .int) (C := RX1) (T := TX1) (N := 11) hx hb hts (fun w hw => in_X1 w hw) tyX1 tyX1_ok nmX1 hown hK hP hD hS 0 rfl rfl 0 (by decide) (hts (.fieldLink RX1 9 "VacantAir$Devices" "x" "[I") (by decide +kernel)) (fun _ h9 => h9) rfl hin rfl (by decide +kernel) rfl rfl (Nat.le_of_ble_eq_true rfl) dX1_init_9 (fun H locs hP hD hS => ?_)
  have hP : va_P D vwCl [(h0, .inr (1, [.ref q0, .null, .null, .null, .null, .null, .null, .null, .null, .null, .int 0])), (q0, .inl (g.1, (16, .inl (fun _ => 0))))] H := hP
  have hD : va_D A [(h0, .inr (1, [.ref q0, .null, .null, .null, .null, .null, .null, .null, .null, .null, .int 0])), (q0, .inl (g.1, (16, .inl (fun _ => 0))))] := hD
  refine lv_aload_n hx hb dX1_init_12 rfl (lv_at hl 0 rfl) ?_
  refine lv_bipush (v := 16) hx hb dX1_init_13 (by decide) ?_
  refine b_newi hx hb (hts (.arrayClass .int) (by decide +kernel)) hK 0 rfl hP hD hS hA (N := 16) (by decide) (by decide) (Nat.le_of_ble_eq_true rfl) (Nat.le_of_ble_eq_true rfl) (Nat.le_of_ble_eq_true rfl) dX1_init_15 (fun q1 H hP hD hS => ?_)
  have hP : va_P D vwCl [(h0, .inr (1, [.ref q0, .null, .null, .null, .null, .null, .null, .null, .null, .null, .int 0])), (q0, .inl (g.1, (16, .inl (fun _ => 0)))), (q1, .inl (g.1, (16, .inl (fun _ => 0))))] H := hP
  have hD : va_D A [(h0, .inr (1, [.ref q0, .null, .null, .null, .null, .null, .null, .null, .null, .null, .int 0])), (q0, .inl (g.1, (16, .inl (fun _ => 0)))), (q1, .inl (g.1, (16, .inl (fun _ => 0))))] := hD
  refine W.widen (k := 2) (n := 32) (by decide) (by decide) ?_
  refine va_putF (D := D) (ci := 1) (v := .ref q1) (ty := .array .int) (C := RX1) (T := TX1) (N := 11) hx hb hts (fun w hw => in_X1 w hw) tyX1 tyX1_ok nmX1 hown hK hP hD hS 0 rfl rfl 1 (by decide) (hts (.fieldLink RX1 15 "VacantAir$Devices" "y" "[I") (by decide +kernel)) (fun _ h9 => h9) rfl hin rfl (by decide +kernel) rfl rfl (Nat.le_of_ble_eq_true rfl) dX1_init_17 (fun H locs hP hD hS => ?_)
  have hP : va_P D vwCl [(h0, .inr (1, [.ref q0, .ref q1, .null, .null, .null, .null, .null, .null, .null, .null, .int 0])), (q0, .inl (g.1, (16, .inl (fun _ => 0)))), (q1, .inl (g.1, (16, .inl (fun _ => 0))))] H := hP
  have hD : va_D A [(h0, .inr (1, [.ref q0, .ref q1, .null, .null, .null, .null, .null, .null, .null, .null, .int 0])), (q0, .inl (g.1, (16, .inl (fun _ => 0)))), (q1, .inl (g.1, (16, .inl (fun _ => 0))))] := hD
  refine lv_aload_n hx hb dX1_init_20 rfl (lv_at hl 0 rfl) ?_
  refine lv_bipush (v := 16) hx hb dX1_init_21 (by decide) ?_
  refine b_newi hx hb (hts (.arrayClass .int) (by decide +kernel)) hK 0 rfl hP hD hS hA (N := 16) (by decide) (by decide) (Nat.le_of_ble_eq_true rfl) (Nat.le_of_ble_eq_true rfl) (Nat.le_of_ble_eq_true rfl) dX1_init_23 (fun q2 H hP hD hS => ?_)
  have hP : va_P D vwCl [(h0, .inr (1, [.ref q0, .ref q1, .null, .null, .null, .null, .null, .null, .null, .null, .int 0])), (q0, .inl (g.1, (16, .inl (fun _ => 0)))), (q1, .inl (g.1, (16, .inl (fun _ => 0)))), (q2, .inl (g.1, (16, .inl (fun _ => 0))))] H := hP
  have hD : va_D A [(h0, .inr (1, [.ref q0, .ref q1, .null, .null, .null, .null, .null, .null, .null, .null, .int 0])), (q0, .inl (g.1, (16, .inl (fun _ => 0)))), (q1, .inl (g.1, (16, .inl (fun _ => 0)))), (q2, .inl (g.1, (16, .inl (fun _ => 0))))] := hD
  refine W.widen (k := 3) (n := 48) (by decide) (by decide) ?_
  refine va_putF (D := D) (ci := 1) (v := .ref q2) (ty := .array .int) (C := RX1) (T := TX1) (N := 11) hx hb hts (fun w hw => in_X1 w hw) tyX1 tyX1_ok nmX1 hown hK hP hD hS 0 rfl rfl 2 (by decide) (hts (.fieldLink RX1 18 "VacantAir$Devices" "greatest" "[I") (by decide +kernel)) (fun _ h9 => h9) rfl hin rfl (by decide +kernel) rfl rfl (Nat.le_of_ble_eq_true rfl) dX1_init_25 (fun H locs hP hD hS => ?_)
  have hP : va_P D vwCl [(h0, .inr (1, [.ref q0, .ref q1, .ref q2, .null, .null, .null, .null, .null, .null, .null, .int 0])), (q0, .inl (g.1, (16, .inl (fun _ => 0)))), (q1, .inl (g.1, (16, .inl (fun _ => 0)))), (q2, .inl (g.1, (16, .inl (fun _ => 0))))] H := hP
  have hD : va_D A [(h0, .inr (1, [.ref q0, .ref q1, .ref q2, .null, .null, .null, .null, .null, .null, .null, .int 0])), (q0, .inl (g.1, (16, .inl (fun _ => 0)))), (q1, .inl (g.1, (16, .inl (fun _ => 0)))), (q2, .inl (g.1, (16, .inl (fun _ => 0))))] := hD
  refine lv_aload_n hx hb dX1_init_28 rfl (lv_at hl 0 rfl) ?_
  refine lv_bipush (v := 16) hx hb dX1_init_29 (by decide) ?_
  refine b_newi hx hb (hts (.arrayClass .int) (by decide +kernel)) hK 0 rfl hP hD hS hA (N := 16) (by decide) (by decide) (Nat.le_of_ble_eq_true rfl) (Nat.le_of_ble_eq_true rfl) (Nat.le_of_ble_eq_true rfl) dX1_init_31 (fun q3 H hP hD hS => ?_)
  have hP : va_P D vwCl [(h0, .inr (1, [.ref q0, .ref q1, .ref q2, .null, .null, .null, .null, .null, .null, .null, .int 0])), (q0, .inl (g.1, (16, .inl (fun _ => 0)))), (q1, .inl (g.1, (16, .inl (fun _ => 0)))), (q2, .inl (g.1, (16, .inl (fun _ => 0)))), (q3, .inl (g.1, (16, .inl (fun _ => 0))))] H := hP
  have hD : va_D A [(h0, .inr (1, [.ref q0, .ref q1, .ref q2, .null, .null, .null, .null, .null, .null, .null, .int 0])), (q0, .inl (g.1, (16, .inl (fun _ => 0)))), (q1, .inl (g.1, (16, .inl (fun _ => 0)))), (q2, .inl (g.1, (16, .inl (fun _ => 0)))), (q3, .inl (g.1, (16, .inl (fun _ => 0))))] := hD
  refine W.widen (k := 4) (n := 64) (by decide) (by decide) ?_
  refine va_putF (D := D) (ci := 1) (v := .ref q3) (ty := .array .int) (C := RX1) (T := TX1) (N := 11) hx hb hts (fun w hw => in_X1 w hw) tyX1 tyX1_ok nmX1 hown hK hP hD hS 0 rfl rfl 3 (by decide) (hts (.fieldLink RX1 21 "VacantAir$Devices" "channel" "[I") (by decide +kernel)) (fun _ h9 => h9) rfl hin rfl (by decide +kernel) rfl rfl (Nat.le_of_ble_eq_true rfl) dX1_init_33 (fun H locs hP hD hS => ?_)
  have hP : va_P D vwCl [(h0, .inr (1, [.ref q0, .ref q1, .ref q2, .ref q3, .null, .null, .null, .null, .null, .null, .int 0])), (q0, .inl (g.1, (16, .inl (fun _ => 0)))), (q1, .inl (g.1, (16, .inl (fun _ => 0)))), (q2, .inl (g.1, (16, .inl (fun _ => 0)))), (q3, .inl (g.1, (16, .inl (fun _ => 0))))] H := hP
  have hD : va_D A [(h0, .inr (1, [.ref q0, .ref q1, .ref q2, .ref q3, .null, .null, .null, .null, .null, .null, .int 0])), (q0, .inl (g.1, (16, .inl (fun _ => 0)))), (q1, .inl (g.1, (16, .inl (fun _ => 0)))), (q2, .inl (g.1, (16, .inl (fun _ => 0)))), (q3, .inl (g.1, (16, .inl (fun _ => 0))))] := hD
  refine lv_aload_n hx hb dX1_init_36 rfl (lv_at hl 0 rfl) ?_
  refine lv_bipush (v := 16) hx hb dX1_init_37 (by decide) ?_
  refine b_newi hx hb (hts (.arrayClass .int) (by decide +kernel)) hK 0 rfl hP hD hS hA (N := 16) (by decide) (by decide) (Nat.le_of_ble_eq_true rfl) (Nat.le_of_ble_eq_true rfl) (Nat.le_of_ble_eq_true rfl) dX1_init_39 (fun q4 H hP hD hS => ?_)
  have hP : va_P D vwCl [(h0, .inr (1, [.ref q0, .ref q1, .ref q2, .ref q3, .null, .null, .null, .null, .null, .null, .int 0])), (q0, .inl (g.1, (16, .inl (fun _ => 0)))), (q1, .inl (g.1, (16, .inl (fun _ => 0)))), (q2, .inl (g.1, (16, .inl (fun _ => 0)))), (q3, .inl (g.1, (16, .inl (fun _ => 0)))), (q4, .inl (g.1, (16, .inl (fun _ => 0))))] H := hP
  have hD : va_D A [(h0, .inr (1, [.ref q0, .ref q1, .ref q2, .ref q3, .null, .null, .null, .null, .null, .null, .int 0])), (q0, .inl (g.1, (16, .inl (fun _ => 0)))), (q1, .inl (g.1, (16, .inl (fun _ => 0)))), (q2, .inl (g.1, (16, .inl (fun _ => 0)))), (q3, .inl (g.1, (16, .inl (fun _ => 0)))), (q4, .inl (g.1, (16, .inl (fun _ => 0))))] := hD
  refine W.widen (k := 5) (n := 80) (by decide) (by decide) ?_
  refine va_putF (D := D) (ci := 1) (v := .ref q4) (ty := .array .int) (C := RX1) (T := TX1) (N := 11) hx hb hts (fun w hw => in_X1 w hw) tyX1 tyX1_ok nmX1 hown hK hP hD hS 0 rfl rfl 4 (by decide) (hts (.fieldLink RX1 24 "VacantAir$Devices" "power" "[I") (by decide +kernel)) (fun _ h9 => h9) rfl hin rfl (by decide +kernel) rfl rfl (Nat.le_of_ble_eq_true rfl) dX1_init_41 (fun H locs hP hD hS => ?_)
  have hP : va_P D vwCl [(h0, .inr (1, [.ref q0, .ref q1, .ref q2, .ref q3, .ref q4, .null, .null, .null, .null, .null, .int 0])), (q0, .inl (g.1, (16, .inl (fun _ => 0)))), (q1, .inl (g.1, (16, .inl (fun _ => 0)))), (q2, .inl (g.1, (16, .inl (fun _ => 0)))), (q3, .inl (g.1, (16, .inl (fun _ => 0)))), (q4, .inl (g.1, (16, .inl (fun _ => 0))))] H := hP
  have hD : va_D A [(h0, .inr (1, [.ref q0, .ref q1, .ref q2, .ref q3, .ref q4, .null, .null, .null, .null, .null, .int 0])), (q0, .inl (g.1, (16, .inl (fun _ => 0)))), (q1, .inl (g.1, (16, .inl (fun _ => 0)))), (q2, .inl (g.1, (16, .inl (fun _ => 0)))), (q3, .inl (g.1, (16, .inl (fun _ => 0)))), (q4, .inl (g.1, (16, .inl (fun _ => 0))))] := hD
  refine lv_aload_n hx hb dX1_init_44 rfl (lv_at hl 0 rfl) ?_
  refine lv_bipush (v := 16) hx hb dX1_init_45 (by decide) ?_
  refine b_newi hx hb (hts (.arrayClass .int) (by decide +kernel)) hK 0 rfl hP hD hS hA (N := 16) (by decide) (by decide) (Nat.le_of_ble_eq_true rfl) (Nat.le_of_ble_eq_true rfl) (Nat.le_of_ble_eq_true rfl) dX1_init_47 (fun q5 H hP hD hS => ?_)
  have hP : va_P D vwCl [(h0, .inr (1, [.ref q0, .ref q1, .ref q2, .ref q3, .ref q4, .null, .null, .null, .null, .null, .int 0])), (q0, .inl (g.1, (16, .inl (fun _ => 0)))), (q1, .inl (g.1, (16, .inl (fun _ => 0)))), (q2, .inl (g.1, (16, .inl (fun _ => 0)))), (q3, .inl (g.1, (16, .inl (fun _ => 0)))), (q4, .inl (g.1, (16, .inl (fun _ => 0)))), (q5, .inl (g.1, (16, .inl (fun _ => 0))))] H := hP
  have hD : va_D A [(h0, .inr (1, [.ref q0, .ref q1, .ref q2, .ref q3, .ref q4, .null, .null, .null, .null, .null, .int 0])), (q0, .inl (g.1, (16, .inl (fun _ => 0)))), (q1, .inl (g.1, (16, .inl (fun _ => 0)))), (q2, .inl (g.1, (16, .inl (fun _ => 0)))), (q3, .inl (g.1, (16, .inl (fun _ => 0)))), (q4, .inl (g.1, (16, .inl (fun _ => 0)))), (q5, .inl (g.1, (16, .inl (fun _ => 0))))] := hD
  refine W.widen (k := 6) (n := 96) (by decide) (by decide) ?_
  refine va_putF (D := D) (ci := 1) (v := .ref q5) (ty := .array .int) (C := RX1) (T := TX1) (N := 11) hx hb hts (fun w hw => in_X1 w hw) tyX1 tyX1_ok nmX1 hown hK hP hD hS 0 rfl rfl 5 (by decide) (hts (.fieldLink RX1 27 "VacantAir$Devices" "end" "[I") (by decide +kernel)) (fun _ h9 => h9) rfl hin rfl (by decide +kernel) rfl rfl (Nat.le_of_ble_eq_true rfl) dX1_init_49 (fun H locs hP hD hS => ?_)
  have hP : va_P D vwCl [(h0, .inr (1, [.ref q0, .ref q1, .ref q2, .ref q3, .ref q4, .ref q5, .null, .null, .null, .null, .int 0])), (q0, .inl (g.1, (16, .inl (fun _ => 0)))), (q1, .inl (g.1, (16, .inl (fun _ => 0)))), (q2, .inl (g.1, (16, .inl (fun _ => 0)))), (q3, .inl (g.1, (16, .inl (fun _ => 0)))), (q4, .inl (g.1, (16, .inl (fun _ => 0)))), (q5, .inl (g.1, (16, .inl (fun _ => 0))))] H := hP
  have hD : va_D A [(h0, .inr (1, [.ref q0, .ref q1, .ref q2, .ref q3, .ref q4, .ref q5, .null, .null, .null, .null, .int 0])), (q0, .inl (g.1, (16, .inl (fun _ => 0)))), (q1, .inl (g.1, (16, .inl (fun _ => 0)))), (q2, .inl (g.1, (16, .inl (fun _ => 0)))), (q3, .inl (g.1, (16, .inl (fun _ => 0)))), (q4, .inl (g.1, (16, .inl (fun _ => 0)))), (q5, .inl (g.1, (16, .inl (fun _ => 0))))] := hD
  refine lv_aload_n hx hb dX1_init_52 rfl (lv_at hl 0 rfl) ?_
  refine lv_bipush (v := 16) hx hb dX1_init_53 (by decide) ?_
  refine b_newi hx hb (hts (.arrayClass .int) (by decide +kernel)) hK 0 rfl hP hD hS hA (N := 16) (by decide) (by decide) (Nat.le_of_ble_eq_true rfl) (Nat.le_of_ble_eq_true rfl) (Nat.le_of_ble_eq_true rfl) dX1_init_55 (fun q6 H hP hD hS => ?_)
  have hP : va_P D vwCl [(h0, .inr (1, [.ref q0, .ref q1, .ref q2, .ref q3, .ref q4, .ref q5, .null, .null, .null, .null, .int 0])), (q0, .inl (g.1, (16, .inl (fun _ => 0)))), (q1, .inl (g.1, (16, .inl (fun _ => 0)))), (q2, .inl (g.1, (16, .inl (fun _ => 0)))), (q3, .inl (g.1, (16, .inl (fun _ => 0)))), (q4, .inl (g.1, (16, .inl (fun _ => 0)))), (q5, .inl (g.1, (16, .inl (fun _ => 0)))), (q6, .inl (g.1, (16, .inl (fun _ => 0))))] H := hP
  have hD : va_D A [(h0, .inr (1, [.ref q0, .ref q1, .ref q2, .ref q3, .ref q4, .ref q5, .null, .null, .null, .null, .int 0])), (q0, .inl (g.1, (16, .inl (fun _ => 0)))), (q1, .inl (g.1, (16, .inl (fun _ => 0)))), (q2, .inl (g.1, (16, .inl (fun _ => 0)))), (q3, .inl (g.1, (16, .inl (fun _ => 0)))), (q4, .inl (g.1, (16, .inl (fun _ => 0)))), (q5, .inl (g.1, (16, .inl (fun _ => 0)))), (q6, .inl (g.1, (16, .inl (fun _ => 0))))] := hD
  refine W.widen (k := 7) (n := 112) (by decide) (by decide) ?_
  refine va_putF (D := D) (ci := 1) (v := .ref q6) (ty := .array .int) (C := RX1) (T := TX1) (N := 11) hx hb hts (fun w hw => in_X1 w hw) tyX1 tyX1_ok nmX1 hown hK hP hD hS 0 rfl rfl 6 (by decide) (hts (.fieldLink RX1 30 "VacantAir$Devices" "notice" "[I") (by decide +kernel)) (fun _ h9 => h9) rfl hin rfl (by decide +kernel) rfl rfl (Nat.le_of_ble_eq_true rfl) dX1_init_57 (fun H locs hP hD hS => ?_)
  have hP : va_P D vwCl [(h0, .inr (1, [.ref q0, .ref q1, .ref q2, .ref q3, .ref q4, .ref q5, .ref q6, .null, .null, .null, .int 0])), (q0, .inl (g.1, (16, .inl (fun _ => 0)))), (q1, .inl (g.1, (16, .inl (fun _ => 0)))), (q2, .inl (g.1, (16, .inl (fun _ => 0)))), (q3, .inl (g.1, (16, .inl (fun _ => 0)))), (q4, .inl (g.1, (16, .inl (fun _ => 0)))), (q5, .inl (g.1, (16, .inl (fun _ => 0)))), (q6, .inl (g.1, (16, .inl (fun _ => 0))))] H := hP
  have hD : va_D A [(h0, .inr (1, [.ref q0, .ref q1, .ref q2, .ref q3, .ref q4, .ref q5, .ref q6, .null, .null, .null, .int 0])), (q0, .inl (g.1, (16, .inl (fun _ => 0)))), (q1, .inl (g.1, (16, .inl (fun _ => 0)))), (q2, .inl (g.1, (16, .inl (fun _ => 0)))), (q3, .inl (g.1, (16, .inl (fun _ => 0)))), (q4, .inl (g.1, (16, .inl (fun _ => 0)))), (q5, .inl (g.1, (16, .inl (fun _ => 0)))), (q6, .inl (g.1, (16, .inl (fun _ => 0))))] := hD
  refine lv_aload_n hx hb dX1_init_60 rfl (lv_at hl 0 rfl) ?_
  refine lv_bipush (v := 16) hx hb dX1_init_61 (by decide) ?_
  refine b_newi hx hb (hts (.arrayClass .int) (by decide +kernel)) hK 0 rfl hP hD hS hA (N := 16) (by decide) (by decide) (Nat.le_of_ble_eq_true rfl) (Nat.le_of_ble_eq_true rfl) (Nat.le_of_ble_eq_true rfl) dX1_init_63 (fun q7 H hP hD hS => ?_)
  have hP : va_P D vwCl [(h0, .inr (1, [.ref q0, .ref q1, .ref q2, .ref q3, .ref q4, .ref q5, .ref q6, .null, .null, .null, .int 0])), (q0, .inl (g.1, (16, .inl (fun _ => 0)))), (q1, .inl (g.1, (16, .inl (fun _ => 0)))), (q2, .inl (g.1, (16, .inl (fun _ => 0)))), (q3, .inl (g.1, (16, .inl (fun _ => 0)))), (q4, .inl (g.1, (16, .inl (fun _ => 0)))), (q5, .inl (g.1, (16, .inl (fun _ => 0)))), (q6, .inl (g.1, (16, .inl (fun _ => 0)))), (q7, .inl (g.1, (16, .inl (fun _ => 0))))] H := hP
  have hD : va_D A [(h0, .inr (1, [.ref q0, .ref q1, .ref q2, .ref q3, .ref q4, .ref q5, .ref q6, .null, .null, .null, .int 0])), (q0, .inl (g.1, (16, .inl (fun _ => 0)))), (q1, .inl (g.1, (16, .inl (fun _ => 0)))), (q2, .inl (g.1, (16, .inl (fun _ => 0)))), (q3, .inl (g.1, (16, .inl (fun _ => 0)))), (q4, .inl (g.1, (16, .inl (fun _ => 0)))), (q5, .inl (g.1, (16, .inl (fun _ => 0)))), (q6, .inl (g.1, (16, .inl (fun _ => 0)))), (q7, .inl (g.1, (16, .inl (fun _ => 0))))] := hD
  refine W.widen (k := 8) (n := 128) (by decide) (by decide) ?_
  refine va_putF (D := D) (ci := 1) (v := .ref q7) (ty := .array .int) (C := RX1) (T := TX1) (N := 11) hx hb hts (fun w hw => in_X1 w hw) tyX1 tyX1_ok nmX1 hown hK hP hD hS 0 rfl rfl 7 (by decide) (hts (.fieldLink RX1 33 "VacantAir$Devices" "hops" "[I") (by decide +kernel)) (fun _ h9 => h9) rfl hin rfl (by decide +kernel) rfl rfl (Nat.le_of_ble_eq_true rfl) dX1_init_65 (fun H locs hP hD hS => ?_)
  have hP : va_P D vwCl [(h0, .inr (1, [.ref q0, .ref q1, .ref q2, .ref q3, .ref q4, .ref q5, .ref q6, .ref q7, .null, .null, .int 0])), (q0, .inl (g.1, (16, .inl (fun _ => 0)))), (q1, .inl (g.1, (16, .inl (fun _ => 0)))), (q2, .inl (g.1, (16, .inl (fun _ => 0)))), (q3, .inl (g.1, (16, .inl (fun _ => 0)))), (q4, .inl (g.1, (16, .inl (fun _ => 0)))), (q5, .inl (g.1, (16, .inl (fun _ => 0)))), (q6, .inl (g.1, (16, .inl (fun _ => 0)))), (q7, .inl (g.1, (16, .inl (fun _ => 0))))] H := hP
  have hD : va_D A [(h0, .inr (1, [.ref q0, .ref q1, .ref q2, .ref q3, .ref q4, .ref q5, .ref q6, .ref q7, .null, .null, .int 0])), (q0, .inl (g.1, (16, .inl (fun _ => 0)))), (q1, .inl (g.1, (16, .inl (fun _ => 0)))), (q2, .inl (g.1, (16, .inl (fun _ => 0)))), (q3, .inl (g.1, (16, .inl (fun _ => 0)))), (q4, .inl (g.1, (16, .inl (fun _ => 0)))), (q5, .inl (g.1, (16, .inl (fun _ => 0)))), (q6, .inl (g.1, (16, .inl (fun _ => 0)))), (q7, .inl (g.1, (16, .inl (fun _ => 0))))] := hD
  refine lv_aload_n hx hb dX1_init_68 rfl (lv_at hl 0 rfl) ?_
  refine lv_bipush (v := 16) hx hb dX1_init_69 (by decide) ?_
  refine b_newi hx hb (hts (.arrayClass .int) (by decide +kernel)) hK 0 rfl hP hD hS hA (N := 16) (by decide) (by decide) (Nat.le_of_ble_eq_true rfl) (Nat.le_of_ble_eq_true rfl) (Nat.le_of_ble_eq_true rfl) dX1_init_71 (fun q8 H hP hD hS => ?_)
  have hP : va_P D vwCl [(h0, .inr (1, [.ref q0, .ref q1, .ref q2, .ref q3, .ref q4, .ref q5, .ref q6, .ref q7, .null, .null, .int 0])), (q0, .inl (g.1, (16, .inl (fun _ => 0)))), (q1, .inl (g.1, (16, .inl (fun _ => 0)))), (q2, .inl (g.1, (16, .inl (fun _ => 0)))), (q3, .inl (g.1, (16, .inl (fun _ => 0)))), (q4, .inl (g.1, (16, .inl (fun _ => 0)))), (q5, .inl (g.1, (16, .inl (fun _ => 0)))), (q6, .inl (g.1, (16, .inl (fun _ => 0)))), (q7, .inl (g.1, (16, .inl (fun _ => 0)))), (q8, .inl (g.1, (16, .inl (fun _ => 0))))] H := hP
  have hD : va_D A [(h0, .inr (1, [.ref q0, .ref q1, .ref q2, .ref q3, .ref q4, .ref q5, .ref q6, .ref q7, .null, .null, .int 0])), (q0, .inl (g.1, (16, .inl (fun _ => 0)))), (q1, .inl (g.1, (16, .inl (fun _ => 0)))), (q2, .inl (g.1, (16, .inl (fun _ => 0)))), (q3, .inl (g.1, (16, .inl (fun _ => 0)))), (q4, .inl (g.1, (16, .inl (fun _ => 0)))), (q5, .inl (g.1, (16, .inl (fun _ => 0)))), (q6, .inl (g.1, (16, .inl (fun _ => 0)))), (q7, .inl (g.1, (16, .inl (fun _ => 0)))), (q8, .inl (g.1, (16, .inl (fun _ => 0))))] := hD
  refine W.widen (k := 9) (n := 144) (by decide) (by decide) ?_
  refine va_putF (D := D) (ci := 1) (v := .ref q8) (ty := .array .int) (C := RX1) (T := TX1) (N := 11) hx hb hts (fun w hw => in_X1 w hw) tyX1 tyX1_ok nmX1 hown hK hP hD hS 0 rfl rfl 8 (by decide) (hts (.fieldLink RX1 36 "VacantAir$Devices" "struck" "[I") (by decide +kernel)) (fun _ h9 => h9) rfl hin rfl (by decide +kernel) rfl rfl (Nat.le_of_ble_eq_true rfl) dX1_init_73 (fun H locs hP hD hS => ?_)
  have hP : va_P D vwCl [(h0, .inr (1, [.ref q0, .ref q1, .ref q2, .ref q3, .ref q4, .ref q5, .ref q6, .ref q7, .ref q8, .null, .int 0])), (q0, .inl (g.1, (16, .inl (fun _ => 0)))), (q1, .inl (g.1, (16, .inl (fun _ => 0)))), (q2, .inl (g.1, (16, .inl (fun _ => 0)))), (q3, .inl (g.1, (16, .inl (fun _ => 0)))), (q4, .inl (g.1, (16, .inl (fun _ => 0)))), (q5, .inl (g.1, (16, .inl (fun _ => 0)))), (q6, .inl (g.1, (16, .inl (fun _ => 0)))), (q7, .inl (g.1, (16, .inl (fun _ => 0)))), (q8, .inl (g.1, (16, .inl (fun _ => 0))))] H := hP
  have hD : va_D A [(h0, .inr (1, [.ref q0, .ref q1, .ref q2, .ref q3, .ref q4, .ref q5, .ref q6, .ref q7, .ref q8, .null, .int 0])), (q0, .inl (g.1, (16, .inl (fun _ => 0)))), (q1, .inl (g.1, (16, .inl (fun _ => 0)))), (q2, .inl (g.1, (16, .inl (fun _ => 0)))), (q3, .inl (g.1, (16, .inl (fun _ => 0)))), (q4, .inl (g.1, (16, .inl (fun _ => 0)))), (q5, .inl (g.1, (16, .inl (fun _ => 0)))), (q6, .inl (g.1, (16, .inl (fun _ => 0)))), (q7, .inl (g.1, (16, .inl (fun _ => 0)))), (q8, .inl (g.1, (16, .inl (fun _ => 0))))] := hD
  refine lv_aload_n hx hb dX1_init_76 rfl (lv_at hl 0 rfl) ?_
  refine lv_bipush (v := 16) hx hb dX1_init_77 (by decide) ?_
  refine b_newi hx hb (hts (.arrayClass .int) (by decide +kernel)) hK 0 rfl hP hD hS hA (N := 16) (by decide) (by decide) (Nat.le_of_ble_eq_true rfl) (Nat.le_of_ble_eq_true rfl) (Nat.le_of_ble_eq_true rfl) dX1_init_79 (fun q9 H hP hD hS => ?_)
  have hP : va_P D vwCl [(h0, .inr (1, [.ref q0, .ref q1, .ref q2, .ref q3, .ref q4, .ref q5, .ref q6, .ref q7, .ref q8, .null, .int 0])), (q0, .inl (g.1, (16, .inl (fun _ => 0)))), (q1, .inl (g.1, (16, .inl (fun _ => 0)))), (q2, .inl (g.1, (16, .inl (fun _ => 0)))), (q3, .inl (g.1, (16, .inl (fun _ => 0)))), (q4, .inl (g.1, (16, .inl (fun _ => 0)))), (q5, .inl (g.1, (16, .inl (fun _ => 0)))), (q6, .inl (g.1, (16, .inl (fun _ => 0)))), (q7, .inl (g.1, (16, .inl (fun _ => 0)))), (q8, .inl (g.1, (16, .inl (fun _ => 0)))), (q9, .inl (g.1, (16, .inl (fun _ => 0))))] H := hP
  have hD : va_D A [(h0, .inr (1, [.ref q0, .ref q1, .ref q2, .ref q3, .ref q4, .ref q5, .ref q6, .ref q7, .ref q8, .null, .int 0])), (q0, .inl (g.1, (16, .inl (fun _ => 0)))), (q1, .inl (g.1, (16, .inl (fun _ => 0)))), (q2, .inl (g.1, (16, .inl (fun _ => 0)))), (q3, .inl (g.1, (16, .inl (fun _ => 0)))), (q4, .inl (g.1, (16, .inl (fun _ => 0)))), (q5, .inl (g.1, (16, .inl (fun _ => 0)))), (q6, .inl (g.1, (16, .inl (fun _ => 0)))), (q7, .inl (g.1, (16, .inl (fun _ => 0)))), (q8, .inl (g.1, (16, .inl (fun _ => 0)))), (q9, .inl (g.1, (16, .inl (fun _ => 0))))] := hD
  refine W.widen (k := 10) (n := 160) (by decide) (by decide) ?_
  refine va_putF (D := D) (ci := 1) (v := .ref q9) (ty := .array .int) (C := RX1) (T := TX1) (N := 11) hx hb hts (fun w hw => in_X1 w hw) tyX1 tyX1_ok nmX1 hown hK hP hD hS 0 rfl rfl 9 (by decide) (hts (.fieldLink RX1 39 "VacantAir$Devices" "cut" "[I") (by decide +kernel)) (fun _ h9 => h9) rfl hin rfl (by decide +kernel) rfl rfl (Nat.le_of_ble_eq_true rfl) dX1_init_81 (fun H locs hP hD hS => ?_)
  have hP : va_P D vwCl [(h0, .inr (1, [.ref q0, .ref q1, .ref q2, .ref q3, .ref q4, .ref q5, .ref q6, .ref q7, .ref q8, .ref q9, .int 0])), (q0, .inl (g.1, (16, .inl (fun _ => 0)))), (q1, .inl (g.1, (16, .inl (fun _ => 0)))), (q2, .inl (g.1, (16, .inl (fun _ => 0)))), (q3, .inl (g.1, (16, .inl (fun _ => 0)))), (q4, .inl (g.1, (16, .inl (fun _ => 0)))), (q5, .inl (g.1, (16, .inl (fun _ => 0)))), (q6, .inl (g.1, (16, .inl (fun _ => 0)))), (q7, .inl (g.1, (16, .inl (fun _ => 0)))), (q8, .inl (g.1, (16, .inl (fun _ => 0)))), (q9, .inl (g.1, (16, .inl (fun _ => 0))))] H := hP
  have hD : va_D A [(h0, .inr (1, [.ref q0, .ref q1, .ref q2, .ref q3, .ref q4, .ref q5, .ref q6, .ref q7, .ref q8, .ref q9, .int 0])), (q0, .inl (g.1, (16, .inl (fun _ => 0)))), (q1, .inl (g.1, (16, .inl (fun _ => 0)))), (q2, .inl (g.1, (16, .inl (fun _ => 0)))), (q3, .inl (g.1, (16, .inl (fun _ => 0)))), (q4, .inl (g.1, (16, .inl (fun _ => 0)))), (q5, .inl (g.1, (16, .inl (fun _ => 0)))), (q6, .inl (g.1, (16, .inl (fun _ => 0)))), (q7, .inl (g.1, (16, .inl (fun _ => 0)))), (q8, .inl (g.1, (16, .inl (fun _ => 0)))), (q9, .inl (g.1, (16, .inl (fun _ => 0))))] := hD
  refine W.vret hx hb hr (fun t ht hW => ⟨⟨fun i => [q0, q1, q2, q3, q4, q5, q6, q7, q8, q9].getD (i - 16) 0, rfl, trivial, ?_, ?_⟩, hS.F ht⟩) hS.2.2 dX1_init_84
  · rw [ht]; exact hP
  · exact hD
