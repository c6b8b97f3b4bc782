/-! blocks before, the rest behind -/
theorem b_mid {α : Type} (pl X : List α) (k : Nat) {x : α} (h : X[k]? = some x) : (pl ++ X)[pl.length + k]? = some x := by
  rw [List.getElem?_append_right (by omega), show pl.length + k - pl.length = k by omega]
  exact h
theorem b_setmid {α : Type} (pl X : List α) (k : Nat) (x : α) : (pl ++ X).set (pl.length + k) x = pl ++ X.set k x := by
  rw [List.set_append_right _ _ (by omega), show pl.length + k - pl.length = k by omega]
theorem b_hd {α : Type} (pl t X : List α) (x : α) : ((pl ++ (x :: t)) ++ X)[pl.length]? = some x := by
  rw [List.append_assoc, List.getElem?_append_right (Nat.le_refl _), Nat.sub_self]
  rfl
theorem b_arrV {cI : ClassId} {N : Nat} {f f' : Nat → Value} (h : ∀ j, j < N → f j = f' j) : arrV cI N f = arrV cI N f' := by
  unfold arrV
  have e : (fun j : Fin N => f j.val) = fun j : Fin N => f' j.val := funext fun j => h j.val j.isLt
  rw [e]
theorem b_refs {cS : ClassId} {n : Nat} {f f' : Nat → Option Nat} (h : ∀ j, j < n → f j = f' j) : vp_cell cS (n, .inr (.inr (.inr (.inr f)))) = vp_cell cS (n, .inr (.inr (.inr (.inr f')))) := b_arrV (fun j hj => congrArg va_rf (h j hj))
theorem b_reP {D : va_G} {cl : List vw_C} {pl X : va_W} {H : Heap} {a k : Nat} {e e' : va_E} (hP : va_P D cl (pl ++ X) H) (hk : X[k]? = some (a, e)) (he : va_at D cl (a, e) H → va_at D cl (a, e') H) : va_P D cl (pl ++ X.set k (a, e')) H := by
  intro i q hq
  rw [← b_setmid] at hq
  by_cases h : i = pl.length + k
  · subst h
    have hl : pl.length + k < (pl ++ X).length := (List.getElem?_eq_some_iff.mp (b_mid pl X k hk)).1
    rw [List.getElem?_set_self hl] at hq
    cases hq
    exact he (hP _ _ (b_mid pl X k hk))
  · rw [List.getElem?_set_ne (Ne.symm h)] at hq
    exact hP i q hq
theorem b_reD {A : Nat → Prop} {pl X : va_W} {a k : Nat} {e e' : va_E} (hD : va_D A (pl ++ X)) (hk : X[k]? = some (a, e)) : va_D A (pl ++ X.set k (a, e')) := by
  rw [← b_setmid]
  exact hD.set (b_mid pl X k hk)
/-- a block of its own addresses -/
def b_blk (m0 : aM) (g : aG) (F : Nat → Nat) : va_W := b_wX4 m0 g (F 0) F
def b_sq (q : Nat) (f : Nat → Nat) : Nat → Nat := fun c => if c = 0 then q else f c
theorem b_blk_sq (m0 : aM) (g : aG) (q : Nat) (f : Nat → Nat) : b_blk m0 g (b_sq q f) = b_wX4 m0 g q f := rfl
theorem in_X3 : ∀ w ∈ u_ws RX3 TX3 3, w ∈ wsX3_init := fun w hw => List.mem_cons_of_mem _ (List.mem_append_left _ (List.mem_append_left _ (List.mem_append_left _ (List.mem_append_left _ (List.mem_append_right _ hw)))))
theorem in_X3_4 : ∀ w ∈ u_ws RX4 TX4 6, w ∈ wsX3_init := fun w hw => List.mem_cons_of_mem _ (List.mem_append_left _ (List.mem_append_left _ (List.mem_append_left _ (List.mem_append_right _ hw))))
theorem in_X6_4 : ∀ w ∈ u_ws RX4 TX4 6, w ∈ wsX6_init := fun w hw => List.mem_cons_of_mem _ (List.mem_append_left _ (List.mem_append_left _ (List.mem_append_left _ (List.mem_append_left _ (List.mem_append_left _ (List.mem_append_left _ (List.mem_append_right _ hw)))))))
theorem in_X6 : ∀ w ∈ u_ws RX6 TX6 6, w ∈ wsX6_init := fun w hw => List.mem_cons_of_mem _ (List.mem_append_left _ (List.mem_append_left _ (List.mem_append_left _ (List.mem_append_left _ (List.mem_append_left _ (List.mem_append_right _ hw))))))
theorem in_X6_3 : ∀ w ∈ u_ws RX3 TX3 3, w ∈ wsX6_init := fun w hw => List.mem_cons_of_mem _ (List.mem_append_left _ (List.mem_append_left _ (List.mem_append_left _ (List.mem_append_left _ (List.mem_append_right _ hw)))))
theorem in_X6_0 : ∀ w ∈ u_ws RX0 TX0 8, w ∈ wsX6_init := fun w hw => List.mem_cons_of_mem _ (List.mem_append_left _ (List.mem_append_left _ (List.mem_append_left _ (List.mem_append_right _ hw))))
def b_wX3 (m0 : aM) (g : aG) (h0 : Nat) (S : Nat × (Nat → Nat → Nat)) : va_W := ((((((b_blk m0 g (S.2 0)) ++ b_blk m0 g (S.2 1)) ++ b_blk m0 g (S.2 2)) ++ b_blk m0 g (S.2 3)) ++ b_blk m0 g (S.2 4)) ++ b_blk m0 g (S.2 5)) ++ [(h0, .inr (3, [.ref S.1, .int 0, .int 0])), (S.1, .inl (g.2.2.1, (6, .inr (.inr (.inr (.inr (fun j => some (S.2 j 0))))))))]
set_option maxHeartbeats 4000000 in
set_option maxRecDepth 100000 in
/-- History() -/
theorem c_X3 (l : Launch) (base : Nat) (D : va_G) (g : aG) (m0 : aM) (h0 sz : Nat) : Met l yX3_init wsX3_init ({ frames := 3, cells := 163, slots := 1746, locals := 54 }) (b_Pc base D g m0 h0 (.inr (3, [.null, .int 0, .int 0])) sz) (b_Qc D h0 (.inr (3, [.null, .int 0, .int 0])) sz (b_wX3 m0 g h0)) 163 1746 (va_A [(h0, (.inr (3, [.null, .int 0, .int 0])))] sz) := by
  refine Met.ofW (cc := cX3_init) (maxL := 2) (ret := none) (by decide) rfl ?_
  intro p e s m args below meth c s₁ B hml hv
  obtain ⟨rfl, hsz, hP, ⟨hSt, hTb⟩, hbh⟩ := hv
  have hx := B.exec
  have hb := B.bytes
  have hr := B.returns
  have hts := atoms_spec (ws := wsX3_init) B.pre
  have hown : s.vm.findClass RX3 = some m.cls := findClass_of_methodNamed B.named
  have hlocks := B.notSynchronized
  have hin : meth.name = "<init>" := (name_of_methodNamed B.named B.method).1
  subst hsz
  have hK := hSt.1
  have hbs : base ≤ s.heap.size := hSt.2.2.1.2.2
  have hD : va_D (va_A [(h0, (.inr (3, [.null, .int 0, .int 0])))] s.heap.size) [(h0, (.inr (3, [.null, .int 0, .int 0])))] := ⟨fun i j x y hx hy _ => by
    have h1 : i < 1 := (List.getElem?_eq_some_iff.mp hx).1
    have h2 : j < 1 := (List.getElem?_eq_some_iff.mp hy).1
    omega, fun k x hx => va_A.in hx⟩
  have hAb : ∀ q, va_A [(h0, (.inr (3, [.null, .int 0, .int 0])))] s.heap.size q → base ≤ q := by
    intro q h
    rcases h with ⟨k, e2, h⟩ | h
    · have hz : k < 1 := (List.getElem?_eq_some_iff.mp h).1
      rw [show k = 0 by omega] at h
      have hh : (h0, ((.inr (3, [.null, .int 0, .int 0])) : va_E)) = (q, e2) := Option.some.inj h
      have h3 : h0 = q := congrArg Prod.fst hh
      exact h3 ▸ hbh
    · exact Nat.le_trans hbs h
  unfold b_Qc
  generalize hAe : va_A [(h0, (.inr (3, [.null, .int 0, .int 0])))] s.heap.size = A at hD hAb ⊢
  have hA : ∀ q : Nat, s.heap.size ≤ q → A q := fun q h => by rw [← hAe]; exact Or.inr h
  have hS : va_S A s.heap s.heap [] := va_S.rf
  have hP : va_P D vwCl [(h0, (.inr (3, [.null, .int 0, .int 0])))] s.heap := hP
  have hl := lv_entry ([.ref h0]) (n := 2) (Nat.le_of_ble_eq_true rfl)
  rw [lg_entry_eq]
  generalize (lg_sl ([.ref h0]) ++ List.replicate (2 - (lg_sl ([.ref h0])).length) Slot.unset).toArray = ls at hl ⊢
  have hl : lv_has ls 2 [(0, .ref h0)] := hl
  refine lv_aload_n hx hb dX3_init_0 rfl (lv_at hl 0 rfl) ?_
  refine W.objInit hx hb hown (hts (.methodLink RX3 3 objectInit) (by decide +kernel)) (hts (.instanceMethod objectInit) (by decide +kernel)) (hts (.code objectInit ⟨#[0xb1]⟩ 1 none) (by decide +kernel)) rfl (by rw [hml]; exact hl.1) rfl dX3_init_1 (Nat.le_of_ble_eq_true rfl) (Nat.le_of_ble_eq_true rfl) ?_
  refine W.eq (g2 := F0 m 4 ls []) rfl ?_
  refine lv_aload_n hx hb dX3_init_4 rfl (lv_at hl 0 rfl) ?_
  refine lv_bipush (v := 6) hx hb dX3_init_5 (by decide) ?_
  refine b_newq hx hb hown (hts (.classLink RX3 9 RX4) (by decide +kernel)) hTb.2 hK 2 rfl hP hD hS hA (N := 6) (by decide) (by decide) (Nat.le_of_ble_eq_true rfl) (Nat.le_of_ble_eq_true rfl) (Nat.le_of_ble_eq_true rfl) dX3_init_7 (fun qr H hP hD hS => ?_)
  refine W.widen (k := 1) (n := 6) (by decide) (by decide) ?_
  have hP : va_P D vwCl (([] : va_W) ++ [(h0, .inr (3, [.null, .int 0, .int 0])), (qr, .inl (g.2.2.1, (6, .inr (.inr (.inr (.inr (fun _ => none)))))))]) H := hP
  have hD : va_D A (([] : va_W) ++ [(h0, .inr (3, [.null, .int 0, .int 0])), (qr, .inl (g.2.2.1, (6, .inr (.inr (.inr (.inr (fun _ => none)))))))]) := hD
  refine va_putF (D := D) (ci := 3) (v := .ref qr) (ty := .array (.object "VacantAir$State")) (C := RX3) (T := TX3) (N := 3) hx hb hts (fun w hw => in_X3 w hw) tyX3 tyX3_ok nmX3 hown hK hP hD hS (List.length ([] : va_W) + 0) (b_mid ([] : va_W) [(h0, .inr (3, [.null, .int 0, .int 0])), (qr, .inl (g.2.2.1, (6, .inr (.inr (.inr (.inr (fun _ => none)))))))] 0 rfl) rfl 0 (by decide) (hts (.fieldLink RX3 11 "VacantAir$History" "ring" "[LVacantAir$State;") (by decide +kernel)) (fun _ h9 => h9) rfl hin rfl (by decide +kernel) rfl rfl (Nat.le_of_ble_eq_true rfl) dX3_init_10 (fun H locs hP hD hS => ?_)
  rw [b_setmid] at hP hD
  have hP : va_P D vwCl (([] : va_W) ++ [(h0, .inr (3, [.ref qr, .int 0, .int 0])), (qr, .inl (g.2.2.1, (6, .inr (.inr (.inr (.inr (fun _ => none)))))))]) H := hP
  have hD : va_D A (([] : va_W) ++ [(h0, .inr (3, [.ref qr, .int 0, .int 0])), (qr, .inl (g.2.2.1, (6, .inr (.inr (.inr (.inr (fun _ => none)))))))]) := hD
  refine lv_iconst (v := 0) hx hb dX3_init_13 (by decide) ?_
  refine lv_istore_n (lv' := [(1, .int 0), (0, .ref h0)]) hx hb dX3_init_14 rfl hl (by decide) rfl (fun ls hl => ?_)
  refine lv_iload_n hx hb dX3_init_15 rfl (lv_at hl 0 rfl) ?_
  refine lv_aload_n hx hb dX3_init_16 rfl (lv_at hl 1 rfl) ?_
  refine va_get (ci := 3) (C := RX3) (T := TX3) (N := 3) hx hb hts (fun w hw => in_X3 w hw) hown hK hP (List.length ([] : va_W) + 0) (b_mid ([] : va_W) [(h0, .inr (3, [.ref qr, .int 0, .int 0])), (qr, .inl (g.2.2.1, (6, .inr (.inr (.inr (.inr (fun _ => none)))))))] 0 rfl) rfl 0 (by decide) (hts (.fieldLink RX3 11 "VacantAir$History" "ring" "[LVacantAir$State;") (by decide +kernel)) (fun _ h9 => h9) (v := .ref qr) rfl dX3_init_17 ?_
  refine va_alen hx hb hK hP (List.length ([] : va_W) + 1) 2 (b_mid ([] : va_W) [(h0, .inr (3, [.ref qr, .int 0, .int 0])), (qr, .inl (g.2.2.1, (6, .inr (.inr (.inr (.inr (fun _ => none)))))))] 1 rfl) rfl (v := 6) (show Int32.ofNat 6 = 6 by decide) dX3_init_20 ?_
  refine lv_icmp_ge (tgt := 43) hx hb dX3_init_21 (by decide) (fun h9 => absurd h9 (by decide)) (fun _ => ?_)
  refine lv_aload_n hx hb dX3_init_24 rfl (lv_at hl 1 rfl) ?_
  refine va_get (ci := 3) (C := RX3) (T := TX3) (N := 3) hx hb hts (fun w hw => in_X3 w hw) hown hK hP (List.length ([] : va_W) + 0) (b_mid ([] : va_W) [(h0, .inr (3, [.ref qr, .int 0, .int 0])), (qr, .inl (g.2.2.1, (6, .inr (.inr (.inr (.inr (fun _ => none)))))))] 0 rfl) rfl 0 (by decide) (hts (.fieldLink RX3 11 "VacantAir$History" "ring" "[LVacantAir$State;") (by decide +kernel)) (fun _ h9 => h9) (v := .ref qr) rfl dX3_init_25 ?_
  refine lv_iload_n hx hb dX3_init_28 rfl (lv_at hl 0 rfl) ?_
  refine va_new (ci := 4) (fs := [.null, .null, .null, .null, .int 0, .int 0]) (C := RX4) (T := TX4) (N := 6) hx hb hts in_X3_4 tyX4 tyX4_ok hown (hts (.classLink RX3 9 RX4) (by decide +kernel)) (hts (.instantiable RX4 6) (by decide +kernel)) (hts (.initialized RX4) (by decide +kernel)) hK hP hD hS hA rfl (by decide +kernel) (Nat.le_of_ble_eq_true rfl) (Nat.le_of_ble_eq_true rfl) dX3_init_29 (fun q0 H hP hD hS => ?_)
  refine W.widen (k := 2) (n := 12) (by decide) (by decide) ?_
  refine lv_dup hx hb dX3_init_32 rfl ?_
  have hlast := b_mid (([] : va_W) ++ [(h0, .inr (3, [.ref qr, .int 0, .int 0])), (qr, .inl (g.2.2.1, (6, .inr (.inr (.inr (.inr (fun _ => none)))))))]) [(q0, (.inr (4, [.null, .null, .null, .null, .int 0, .int 0]) : va_E))] 0 rfl
  refine b_callv (va_runI (As := []) (rest := [.ref q0, .int 0, .ref qr]) ⟨hx, hb, hml, hown, hts⟩ (c_X4 l base D g m0 q0 H.size) (cwI 0 hts gX3_init_X4_init rfl rfl rfl (hts (.initialized RX4) (by decide +kernel)) (hts (.methodLink RX3 17 yX4_init) (by decide +kernel)) (hts (.instanceMethod yX4_init) (by decide +kernel)) rfl (by decide +kernel) ⟨Nat.le_of_ble_eq_true rfl, Nat.le_of_ble_eq_true rfl⟩) (b_pres hSt hTb hS hAb (fun k x hx => by
    have hz : k < 1 := (List.getElem?_eq_some_iff.mp hx).1
    rw [show k = 0 by omega] at hx
    cases hx
    exact hP _ _ hlast) (hD.2 _ _ hlast)) rfl rfl hl.1 rfl (lv_room (Nat.le_of_ble_eq_true rfl)) dX3_init_33 ⟨Nat.le_of_ble_eq_true rfl, Nat.le_of_ble_eq_true rfl⟩) rfl hP hD hS hA (fun f0 H locs hP hD hS => ?_)
  refine W.widen (k := 28) (n := 296) (by decide) (by decide) ?_
  have hP := va_P.swap (a := ([] : va_W)) (b := [(h0, .inr (3, [.ref qr, .int 0, .int 0])), (qr, .inl (g.2.2.1, (6, .inr (.inr (.inr (.inr (fun _ => none)))))))]) (c := b_wX4 m0 g q0 f0) hP
  have hD := va_D.swap (a := ([] : va_W)) (b := [(h0, .inr (3, [.ref qr, .int 0, .int 0])), (qr, .inl (g.2.2.1, (6, .inr (.inr (.inr (.inr (fun _ => none)))))))]) (c := b_wX4 m0 g q0 f0) hD
  refine va_astq hx hb hK hP hD hS (List.length (([] : va_W) ++ b_wX4 m0 g q0 f0) + 1) 2 (List.length ([] : va_W)) 4 (b_mid (([] : va_W) ++ b_wX4 m0 g q0 f0) [(h0, .inr (3, [.ref qr, .int 0, .int 0])), (qr, .inl (g.2.2.1, (6, .inr (.inr (.inr (.inr (fun _ => none)))))))] 1 rfl) rfl (b_hd ([] : va_W) _ [(h0, .inr (3, [.ref qr, .int 0, .int 0])), (qr, .inl (g.2.2.1, (6, .inr (.inr (.inr (.inr (fun _ => none)))))))] _) rfl (a_in_vp (by decide +kernel)) dX3_init_36 (fun H locs hP hD hS => ?_)
  rw [b_setmid, show Int32.toNatClampNeg 0 = 0 by decide] at hP hD
  have hP : va_P D vwCl ((([] : va_W) ++ b_wX4 m0 g q0 f0) ++ [(h0, .inr (3, [.ref qr, .int 0, .int 0])), (qr, .inl (g.2.2.1, (6, .inr (.inr (.inr (.inr (va_up (fun _ => none) 0 (some q0))))))))]) H := hP
  have hD : va_D A ((([] : va_W) ++ b_wX4 m0 g q0 f0) ++ [(h0, .inr (3, [.ref qr, .int 0, .int 0])), (qr, .inl (g.2.2.1, (6, .inr (.inr (.inr (.inr (va_up (fun _ => none) 0 (some q0))))))))]) := hD
  refine lv_iinc (v := 1) (lv' := [(1, .int 1), (0, .ref h0)]) hx hb dX3_init_37 hl (k := 0) rfl (by decide) (by decide) rfl (fun ls hl => ?_)
  refine lv_goto (tgt := 15) hx hb dX3_init_40 (by decide) ?_
  refine lv_iload_n hx hb dX3_init_15 rfl (lv_at hl 0 rfl) ?_
  refine lv_aload_n hx hb dX3_init_16 rfl (lv_at hl 1 rfl) ?_
  refine va_get (ci := 3) (C := RX3) (T := TX3) (N := 3) hx hb hts (fun w hw => in_X3 w hw) hown hK hP (List.length (([] : va_W) ++ b_wX4 m0 g q0 f0) + 0) (b_mid (([] : va_W) ++ b_wX4 m0 g q0 f0) [(h0, .inr (3, [.ref qr, .int 0, .int 0])), (qr, .inl (g.2.2.1, (6, .inr (.inr (.inr (.inr (va_up (fun _ => none) 0 (some q0))))))))] 0 rfl) rfl 0 (by decide) (hts (.fieldLink RX3 11 "VacantAir$History" "ring" "[LVacantAir$State;") (by decide +kernel)) (fun _ h9 => h9) (v := .ref qr) rfl dX3_init_17 ?_
  refine va_alen hx hb hK hP (List.length (([] : va_W) ++ b_wX4 m0 g q0 f0) + 1) 2 (b_mid (([] : va_W) ++ b_wX4 m0 g q0 f0) [(h0, .inr (3, [.ref qr, .int 0, .int 0])), (qr, .inl (g.2.2.1, (6, .inr (.inr (.inr (.inr (va_up (fun _ => none) 0 (some q0))))))))] 1 rfl) rfl (v := 6) (show Int32.ofNat 6 = 6 by decide) dX3_init_20 ?_
  refine lv_icmp_ge (tgt := 43) hx hb dX3_init_21 (by decide) (fun h9 => absurd h9 (by decide)) (fun _ => ?_)
  refine lv_aload_n hx hb dX3_init_24 rfl (lv_at hl 1 rfl) ?_
  refine va_get (ci := 3) (C := RX3) (T := TX3) (N := 3) hx hb hts (fun w hw => in_X3 w hw) hown hK hP (List.length (([] : va_W) ++ b_wX4 m0 g q0 f0) + 0) (b_mid (([] : va_W) ++ b_wX4 m0 g q0 f0) [(h0, .inr (3, [.ref qr, .int 0, .int 0])), (qr, .inl (g.2.2.1, (6, .inr (.inr (.inr (.inr (va_up (fun _ => none) 0 (some q0))))))))] 0 rfl) rfl 0 (by decide) (hts (.fieldLink RX3 11 "VacantAir$History" "ring" "[LVacantAir$State;") (by decide +kernel)) (fun _ h9 => h9) (v := .ref qr) rfl dX3_init_25 ?_
  refine lv_iload_n hx hb dX3_init_28 rfl (lv_at hl 0 rfl) ?_
  refine va_new (ci := 4) (fs := [.null, .null, .null, .null, .int 0, .int 0]) (C := RX4) (T := TX4) (N := 6) hx hb hts in_X3_4 tyX4 tyX4_ok hown (hts (.classLink RX3 9 RX4) (by decide +kernel)) (hts (.instantiable RX4 6) (by decide +kernel)) (hts (.initialized RX4) (by decide +kernel)) hK hP hD hS hA rfl (by decide +kernel) (Nat.le_of_ble_eq_true rfl) (Nat.le_of_ble_eq_true rfl) dX3_init_29 (fun q1 H hP hD hS => ?_)
  refine W.widen (k := 29) (n := 302) (by decide) (by decide) ?_
  refine lv_dup hx hb dX3_init_32 rfl ?_
  have hlast := b_mid ((([] : va_W) ++ b_wX4 m0 g q0 f0) ++ [(h0, .inr (3, [.ref qr, .int 0, .int 0])), (qr, .inl (g.2.2.1, (6, .inr (.inr (.inr (.inr (va_up (fun _ => none) 0 (some q0))))))))]) [(q1, (.inr (4, [.null, .null, .null, .null, .int 0, .int 0]) : va_E))] 0 rfl
  refine b_callv (va_runI (As := []) (rest := [.ref q1, .int 1, .ref qr]) ⟨hx, hb, hml, hown, hts⟩ (c_X4 l base D g m0 q1 H.size) (cwI 0 hts gX3_init_X4_init rfl rfl rfl (hts (.initialized RX4) (by decide +kernel)) (hts (.methodLink RX3 17 yX4_init) (by decide +kernel)) (hts (.instanceMethod yX4_init) (by decide +kernel)) rfl (by decide +kernel) ⟨Nat.le_of_ble_eq_true rfl, Nat.le_of_ble_eq_true rfl⟩) (b_pres hSt hTb hS hAb (fun k x hx => by
    have hz : k < 1 := (List.getElem?_eq_some_iff.mp hx).1
    rw [show k = 0 by omega] at hx
    cases hx
    exact hP _ _ hlast) (hD.2 _ _ hlast)) rfl rfl hl.1 rfl (lv_room (Nat.le_of_ble_eq_true rfl)) dX3_init_33 ⟨Nat.le_of_ble_eq_true rfl, Nat.le_of_ble_eq_true rfl⟩) rfl hP hD hS hA (fun f1 H locs hP hD hS => ?_)
  refine W.widen (k := 55) (n := 586) (by decide) (by decide) ?_
  have hP := va_P.swap (a := (([] : va_W) ++ b_wX4 m0 g q0 f0)) (b := [(h0, .inr (3, [.ref qr, .int 0, .int 0])), (qr, .inl (g.2.2.1, (6, .inr (.inr (.inr (.inr (va_up (fun _ => none) 0 (some q0))))))))]) (c := b_wX4 m0 g q1 f1) hP
  have hD := va_D.swap (a := (([] : va_W) ++ b_wX4 m0 g q0 f0)) (b := [(h0, .inr (3, [.ref qr, .int 0, .int 0])), (qr, .inl (g.2.2.1, (6, .inr (.inr (.inr (.inr (va_up (fun _ => none) 0 (some q0))))))))]) (c := b_wX4 m0 g q1 f1) hD
  refine va_astq hx hb hK hP hD hS (List.length ((([] : va_W) ++ b_wX4 m0 g q0 f0) ++ b_wX4 m0 g q1 f1) + 1) 2 (List.length (([] : va_W) ++ b_wX4 m0 g q0 f0)) 4 (b_mid ((([] : va_W) ++ b_wX4 m0 g q0 f0) ++ b_wX4 m0 g q1 f1) [(h0, .inr (3, [.ref qr, .int 0, .int 0])), (qr, .inl (g.2.2.1, (6, .inr (.inr (.inr (.inr (va_up (fun _ => none) 0 (some q0))))))))] 1 rfl) rfl (b_hd (([] : va_W) ++ b_wX4 m0 g q0 f0) _ [(h0, .inr (3, [.ref qr, .int 0, .int 0])), (qr, .inl (g.2.2.1, (6, .inr (.inr (.inr (.inr (va_up (fun _ => none) 0 (some q0))))))))] _) rfl (a_in_vp (by decide +kernel)) dX3_init_36 (fun H locs hP hD hS => ?_)
  rw [b_setmid, show Int32.toNatClampNeg 1 = 1 by decide] at hP hD
  have hP : va_P D vwCl (((([] : va_W) ++ b_wX4 m0 g q0 f0) ++ b_wX4 m0 g q1 f1) ++ [(h0, .inr (3, [.ref qr, .int 0, .int 0])), (qr, .inl (g.2.2.1, (6, .inr (.inr (.inr (.inr (va_up (va_up (fun _ => none) 0 (some q0)) 1 (some q1))))))))]) H := hP
  have hD : va_D A (((([] : va_W) ++ b_wX4 m0 g q0 f0) ++ b_wX4 m0 g q1 f1) ++ [(h0, .inr (3, [.ref qr, .int 0, .int 0])), (qr, .inl (g.2.2.1, (6, .inr (.inr (.inr (.inr (va_up (va_up (fun _ => none) 0 (some q0)) 1 (some q1))))))))]) := hD
  refine lv_iinc (v := 2) (lv' := [(1, .int 2), (0, .ref h0)]) hx hb dX3_init_37 hl (k := 0) rfl (by decide) (by decide) rfl (fun ls hl => ?_)
  refine lv_goto (tgt := 15) hx hb dX3_init_40 (by decide) ?_
  refine lv_iload_n hx hb dX3_init_15 rfl (lv_at hl 0 rfl) ?_
  refine lv_aload_n hx hb dX3_init_16 rfl (lv_at hl 1 rfl) ?_
  refine va_get (ci := 3) (C := RX3) (T := TX3) (N := 3) hx hb hts (fun w hw => in_X3 w hw) hown hK hP (List.length ((([] : va_W) ++ b_wX4 m0 g q0 f0) ++ b_wX4 m0 g q1 f1) + 0) (b_mid ((([] : va_W) ++ b_wX4 m0 g q0 f0) ++ b_wX4 m0 g q1 f1) [(h0, .inr (3, [.ref qr, .int 0, .int 0])), (qr, .inl (g.2.2.1, (6, .inr (.inr (.inr (.inr (va_up (va_up (fun _ => none) 0 (some q0)) 1 (some q1))))))))] 0 rfl) rfl 0 (by decide) (hts (.fieldLink RX3 11 "VacantAir$History" "ring" "[LVacantAir$State;") (by decide +kernel)) (fun _ h9 => h9) (v := .ref qr) rfl dX3_init_17 ?_
  refine va_alen hx hb hK hP (List.length ((([] : va_W) ++ b_wX4 m0 g q0 f0) ++ b_wX4 m0 g q1 f1) + 1) 2 (b_mid ((([] : va_W) ++ b_wX4 m0 g q0 f0) ++ b_wX4 m0 g q1 f1) [(h0, .inr (3, [.ref qr, .int 0, .int 0])), (qr, .inl (g.2.2.1, (6, .inr (.inr (.inr (.inr (va_up (va_up (fun _ => none) 0 (some q0)) 1 (some q1))))))))] 1 rfl) rfl (v := 6) (show Int32.ofNat 6 = 6 by decide) dX3_init_20 ?_
  refine lv_icmp_ge (tgt := 43) hx hb dX3_init_21 (by decide) (fun h9 => absurd h9 (by decide)) (fun _ => ?_)
  refine lv_aload_n hx hb dX3_init_24 rfl (lv_at hl 1 rfl) ?_
  refine va_get (ci := 3) (C := RX3) (T := TX3) (N := 3) hx hb hts (fun w hw => in_X3 w hw) hown hK hP (List.length ((([] : va_W) ++ b_wX4 m0 g q0 f0) ++ b_wX4 m0 g q1 f1) + 0) (b_mid ((([] : va_W) ++ b_wX4 m0 g q0 f0) ++ b_wX4 m0 g q1 f1) [(h0, .inr (3, [.ref qr, .int 0, .int 0])), (qr, .inl (g.2.2.1, (6, .inr (.inr (.inr (.inr (va_up (va_up (fun _ => none) 0 (some q0)) 1 (some q1))))))))] 0 rfl) rfl 0 (by decide) (hts (.fieldLink RX3 11 "VacantAir$History" "ring" "[LVacantAir$State;") (by decide +kernel)) (fun _ h9 => h9) (v := .ref qr) rfl dX3_init_25 ?_
  refine lv_iload_n hx hb dX3_init_28 rfl (lv_at hl 0 rfl) ?_
  refine va_new (ci := 4) (fs := [.null, .null, .null, .null, .int 0, .int 0]) (C := RX4) (T := TX4) (N := 6) hx hb hts in_X3_4 tyX4 tyX4_ok hown (hts (.classLink RX3 9 RX4) (by decide +kernel)) (hts (.instantiable RX4 6) (by decide +kernel)) (hts (.initialized RX4) (by decide +kernel)) hK hP hD hS hA rfl (by decide +kernel) (Nat.le_of_ble_eq_true rfl) (Nat.le_of_ble_eq_true rfl) dX3_init_29 (fun q2 H hP hD hS => ?_)
  refine W.widen (k := 56) (n := 592) (by decide) (by decide) ?_
  refine lv_dup hx hb dX3_init_32 rfl ?_
  have hlast := b_mid (((([] : va_W) ++ b_wX4 m0 g q0 f0) ++ b_wX4 m0 g q1 f1) ++ [(h0, .inr (3, [.ref qr, .int 0, .int 0])), (qr, .inl (g.2.2.1, (6, .inr (.inr (.inr (.inr (va_up (va_up (fun _ => none) 0 (some q0)) 1 (some q1))))))))]) [(q2, (.inr (4, [.null, .null, .null, .null, .int 0, .int 0]) : va_E))] 0 rfl
  refine b_callv (va_runI (As := []) (rest := [.ref q2, .int 2, .ref qr]) ⟨hx, hb, hml, hown, hts⟩ (c_X4 l base D g m0 q2 H.size) (cwI 0 hts gX3_init_X4_init rfl rfl rfl (hts (.initialized RX4) (by decide +kernel)) (hts (.methodLink RX3 17 yX4_init) (by decide +kernel)) (hts (.instanceMethod yX4_init) (by decide +kernel)) rfl (by decide +kernel) ⟨Nat.le_of_ble_eq_true rfl, Nat.le_of_ble_eq_true rfl⟩) (b_pres hSt hTb hS hAb (fun k x hx => by
    have hz : k < 1 := (List.getElem?_eq_some_iff.mp hx).1
    rw [show k = 0 by omega] at hx
    cases hx
    exact hP _ _ hlast) (hD.2 _ _ hlast)) rfl rfl hl.1 rfl (lv_room (Nat.le_of_ble_eq_true rfl)) dX3_init_33 ⟨Nat.le_of_ble_eq_true rfl, Nat.le_of_ble_eq_true rfl⟩) rfl hP hD hS hA (fun f2 H locs hP hD hS => ?_)
  refine W.widen (k := 82) (n := 876) (by decide) (by decide) ?_
  have hP := va_P.swap (a := ((([] : va_W) ++ b_wX4 m0 g q0 f0) ++ b_wX4 m0 g q1 f1)) (b := [(h0, .inr (3, [.ref qr, .int 0, .int 0])), (qr, .inl (g.2.2.1, (6, .inr (.inr (.inr (.inr (va_up (va_up (fun _ => none) 0 (some q0)) 1 (some q1))))))))]) (c := b_wX4 m0 g q2 f2) hP
  have hD := va_D.swap (a := ((([] : va_W) ++ b_wX4 m0 g q0 f0) ++ b_wX4 m0 g q1 f1)) (b := [(h0, .inr (3, [.ref qr, .int 0, .int 0])), (qr, .inl (g.2.2.1, (6, .inr (.inr (.inr (.inr (va_up (va_up (fun _ => none) 0 (some q0)) 1 (some q1))))))))]) (c := b_wX4 m0 g q2 f2) hD
  refine va_astq hx hb hK hP hD hS (List.length (((([] : va_W) ++ b_wX4 m0 g q0 f0) ++ b_wX4 m0 g q1 f1) ++ b_wX4 m0 g q2 f2) + 1) 2 (List.length ((([] : va_W) ++ b_wX4 m0 g q0 f0) ++ b_wX4 m0 g q1 f1)) 4 (b_mid (((([] : va_W) ++ b_wX4 m0 g q0 f0) ++ b_wX4 m0 g q1 f1) ++ b_wX4 m0 g q2 f2) [(h0, .inr (3, [.ref qr, .int 0, .int 0])), (qr, .inl (g.2.2.1, (6, .inr (.inr (.inr (.inr (va_up (va_up (fun _ => none) 0 (some q0)) 1 (some q1))))))))] 1 rfl) rfl (b_hd ((([] : va_W) ++ b_wX4 m0 g q0 f0) ++ b_wX4 m0 g q1 f1) _ [(h0, .inr (3, [.ref qr, .int 0, .int 0])), (qr, .inl (g.2.2.1, (6, .inr (.inr (.inr (.inr (va_up (va_up (fun _ => none) 0 (some q0)) 1 (some q1))))))))] _) rfl (a_in_vp (by decide +kernel)) dX3_init_36 (fun H locs hP hD hS => ?_)
  rw [b_setmid, show Int32.toNatClampNeg 2 = 2 by decide] at hP hD
  have hP : va_P D vwCl ((((([] : va_W) ++ b_wX4 m0 g q0 f0) ++ b_wX4 m0 g q1 f1) ++ b_wX4 m0 g q2 f2) ++ [(h0, .inr (3, [.ref qr, .int 0, .int 0])), (qr, .inl (g.2.2.1, (6, .inr (.inr (.inr (.inr (va_up (va_up (va_up (fun _ => none) 0 (some q0)) 1 (some q1)) 2 (some q2))))))))]) H := hP
  have hD : va_D A ((((([] : va_W) ++ b_wX4 m0 g q0 f0) ++ b_wX4 m0 g q1 f1) ++ b_wX4 m0 g q2 f2) ++ [(h0, .inr (3, [.ref qr, .int 0, .int 0])), (qr, .inl (g.2.2.1, (6, .inr (.inr (.inr (.inr (va_up (va_up (va_up (fun _ => none) 0 (some q0)) 1 (some q1)) 2 (some q2))))))))]) := hD
  refine lv_iinc (v := 3) (lv' := [(1, .int 3), (0, .ref h0)]) hx hb dX3_init_37 hl (k := 0) rfl (by decide) (by decide) rfl (fun ls hl => ?_)
  refine lv_goto (tgt := 15) hx hb dX3_init_40 (by decide) ?_
  refine lv_iload_n hx hb dX3_init_15 rfl (lv_at hl 0 rfl) ?_
  refine lv_aload_n hx hb dX3_init_16 rfl (lv_at hl 1 rfl) ?_
  refine va_get (ci := 3) (C := RX3) (T := TX3) (N := 3) hx hb hts (fun w hw => in_X3 w hw) hown hK hP (List.length (((([] : va_W) ++ b_wX4 m0 g q0 f0) ++ b_wX4 m0 g q1 f1) ++ b_wX4 m0 g q2 f2) + 0) (b_mid (((([] : va_W) ++ b_wX4 m0 g q0 f0) ++ b_wX4 m0 g q1 f1) ++ b_wX4 m0 g q2 f2) [(h0, .inr (3, [.ref qr, .int 0, .int 0])), (qr, .inl (g.2.2.1, (6, .inr (.inr (.inr (.inr (va_up (va_up (va_up (fun _ => none) 0 (some q0)) 1 (some q1)) 2 (some q2))))))))] 0 rfl) rfl 0 (by decide) (hts (.fieldLink RX3 11 "VacantAir$History" "ring" "[LVacantAir$State;") (by decide +kernel)) (fun _ h9 => h9) (v := .ref qr) rfl dX3_init_17 ?_
  refine va_alen hx hb hK hP (List.length (((([] : va_W) ++ b_wX4 m0 g q0 f0) ++ b_wX4 m0 g q1 f1) ++ b_wX4 m0 g q2 f2) + 1) 2 (b_mid (((([] : va_W) ++ b_wX4 m0 g q0 f0) ++ b_wX4 m0 g q1 f1) ++ b_wX4 m0 g q2 f2) [(h0, .inr (3, [.ref qr, .int 0, .int 0])), (qr, .inl (g.2.2.1, (6, .inr (.inr (.inr (.inr (va_up (va_up (va_up (fun _ => none) 0 (some q0)) 1 (some q1)) 2 (some q2))))))))] 1 rfl) rfl (v := 6) (show Int32.ofNat 6 = 6 by decide) dX3_init_20 ?_
  refine lv_icmp_ge (tgt := 43) hx hb dX3_init_21 (by decide) (fun h9 => absurd h9 (by decide)) (fun _ => ?_)
  refine lv_aload_n hx hb dX3_init_24 rfl (lv_at hl 1 rfl) ?_
  refine va_get (ci := 3) (C := RX3) (T := TX3) (N := 3) hx hb hts (fun w hw => in_X3 w hw) hown hK hP (List.length (((([] : va_W) ++ b_wX4 m0 g q0 f0) ++ b_wX4 m0 g q1 f1) ++ b_wX4 m0 g q2 f2) + 0) (b_mid (((([] : va_W) ++ b_wX4 m0 g q0 f0) ++ b_wX4 m0 g q1 f1) ++ b_wX4 m0 g q2 f2) [(h0, .inr (3, [.ref qr, .int 0, .int 0])), (qr, .inl (g.2.2.1, (6, .inr (.inr (.inr (.inr (va_up (va_up (va_up (fun _ => none) 0 (some q0)) 1 (some q1)) 2 (some q2))))))))] 0 rfl) rfl 0 (by decide) (hts (.fieldLink RX3 11 "VacantAir$History" "ring" "[LVacantAir$State;") (by decide +kernel)) (fun _ h9 => h9) (v := .ref qr) rfl dX3_init_25 ?_
  refine lv_iload_n hx hb dX3_init_28 rfl (lv_at hl 0 rfl) ?_
  refine va_new (ci := 4) (fs := [.null, .null, .null, .null, .int 0, .int 0]) (C := RX4) (T := TX4) (N := 6) hx hb hts in_X3_4 tyX4 tyX4_ok hown (hts (.classLink RX3 9 RX4) (by decide +kernel)) (hts (.instantiable RX4 6) (by decide +kernel)) (hts (.initialized RX4) (by decide +kernel)) hK hP hD hS hA rfl (by decide +kernel) (Nat.le_of_ble_eq_true rfl) (Nat.le_of_ble_eq_true rfl) dX3_init_29 (fun q3 H hP hD hS => ?_)
  refine W.widen (k := 83) (n := 882) (by decide) (by decide) ?_
  refine lv_dup hx hb dX3_init_32 rfl ?_
  have hlast := b_mid ((((([] : va_W) ++ b_wX4 m0 g q0 f0) ++ b_wX4 m0 g q1 f1) ++ b_wX4 m0 g q2 f2) ++ [(h0, .inr (3, [.ref qr, .int 0, .int 0])), (qr, .inl (g.2.2.1, (6, .inr (.inr (.inr (.inr (va_up (va_up (va_up (fun _ => none) 0 (some q0)) 1 (some q1)) 2 (some q2))))))))]) [(q3, (.inr (4, [.null, .null, .null, .null, .int 0, .int 0]) : va_E))] 0 rfl
  refine b_callv (va_runI (As := []) (rest := [.ref q3, .int 3, .ref qr]) ⟨hx, hb, hml, hown, hts⟩ (c_X4 l base D g m0 q3 H.size) (cwI 0 hts gX3_init_X4_init rfl rfl rfl (hts (.initialized RX4) (by decide +kernel)) (hts (.methodLink RX3 17 yX4_init) (by decide +kernel)) (hts (.instanceMethod yX4_init) (by decide +kernel)) rfl (by decide +kernel) ⟨Nat.le_of_ble_eq_true rfl, Nat.le_of_ble_eq_true rfl⟩) (b_pres hSt hTb hS hAb (fun k x hx => by
    have hz : k < 1 := (List.getElem?_eq_some_iff.mp hx).1
    rw [show k = 0 by omega] at hx
    cases hx
    exact hP _ _ hlast) (hD.2 _ _ hlast)) rfl rfl hl.1 rfl (lv_room (Nat.le_of_ble_eq_true rfl)) dX3_init_33 ⟨Nat.le_of_ble_eq_true rfl, Nat.le_of_ble_eq_true rfl⟩) rfl hP hD hS hA (fun f3 H locs hP hD hS => ?_)
  refine W.widen (k := 109) (n := 1166) (by decide) (by decide) ?_
  have hP := va_P.swap (a := (((([] : va_W) ++ b_wX4 m0 g q0 f0) ++ b_wX4 m0 g q1 f1) ++ b_wX4 m0 g q2 f2)) (b := [(h0, .inr (3, [.ref qr, .int 0, .int 0])), (qr, .inl (g.2.2.1, (6, .inr (.inr (.inr (.inr (va_up (va_up (va_up (fun _ => none) 0 (some q0)) 1 (some q1)) 2 (some q2))))))))]) (c := b_wX4 m0 g q3 f3) hP
  have hD := va_D.swap (a := (((([] : va_W) ++ b_wX4 m0 g q0 f0) ++ b_wX4 m0 g q1 f1) ++ b_wX4 m0 g q2 f2)) (b := [(h0, .inr (3, [.ref qr, .int 0, .int 0])), (qr, .inl (g.2.2.1, (6, .inr (.inr (.inr (.inr (va_up (va_up (va_up (fun _ => none) 0 (some q0)) 1 (some q1)) 2 (some q2))))))))]) (c := b_wX4 m0 g q3 f3) hD
  refine va_astq hx hb hK hP hD hS (List.length ((((([] : va_W) ++ b_wX4 m0 g q0 f0) ++ b_wX4 m0 g q1 f1) ++ b_wX4 m0 g q2 f2) ++ b_wX4 m0 g q3 f3) + 1) 2 (List.length (((([] : va_W) ++ b_wX4 m0 g q0 f0) ++ b_wX4 m0 g q1 f1) ++ b_wX4 m0 g q2 f2)) 4 (b_mid ((((([] : va_W) ++ b_wX4 m0 g q0 f0) ++ b_wX4 m0 g q1 f1) ++ b_wX4 m0 g q2 f2) ++ b_wX4 m0 g q3 f3) [(h0, .inr (3, [.ref qr, .int 0, .int 0])), (qr, .inl (g.2.2.1, (6, .inr (.inr (.inr (.inr (va_up (va_up (va_up (fun _ => none) 0 (some q0)) 1 (some q1)) 2 (some q2))))))))] 1 rfl) rfl (b_hd (((([] : va_W) ++ b_wX4 m0 g q0 f0) ++ b_wX4 m0 g q1 f1) ++ b_wX4 m0 g q2 f2) _ [(h0, .inr (3, [.ref qr, .int 0, .int 0])), (qr, .inl (g.2.2.1, (6, .inr (.inr (.inr (.inr (va_up (va_up (va_up (fun _ => none) 0 (some q0)) 1 (some q1)) 2 (some q2))))))))] _) rfl (a_in_vp (by decide +kernel)) dX3_init_36 (fun H locs hP hD hS => ?_)
  rw [b_setmid, show Int32.toNatClampNeg 3 = 3 by decide] at hP hD
  have hP : va_P D vwCl (((((([] : va_W) ++ b_wX4 m0 g q0 f0) ++ b_wX4 m0 g q1 f1) ++ b_wX4 m0 g q2 f2) ++ b_wX4 m0 g q3 f3) ++ [(h0, .inr (3, [.ref qr, .int 0, .int 0])), (qr, .inl (g.2.2.1, (6, .inr (.inr (.inr (.inr (va_up (va_up (va_up (va_up (fun _ => none) 0 (some q0)) 1 (some q1)) 2 (some q2)) 3 (some q3))))))))]) H := hP
  have hD : va_D A (((((([] : va_W) ++ b_wX4 m0 g q0 f0) ++ b_wX4 m0 g q1 f1) ++ b_wX4 m0 g q2 f2) ++ b_wX4 m0 g q3 f3) ++ [(h0, .inr (3, [.ref qr, .int 0, .int 0])), (qr, .inl (g.2.2.1, (6, .inr (.inr (.inr (.inr (va_up (va_up (va_up (va_up (fun _ => none) 0 (some q0)) 1 (some q1)) 2 (some q2)) 3 (some q3))))))))]) := hD
  refine lv_iinc (v := 4) (lv' := [(1, .int 4), (0, .ref h0)]) hx hb dX3_init_37 hl (k := 0) rfl (by decide) (by decide) rfl (fun ls hl => ?_)
  refine lv_goto (tgt := 15) hx hb dX3_init_40 (by decide) ?_
  refine lv_iload_n hx hb dX3_init_15 rfl (lv_at hl 0 rfl) ?_
  refine lv_aload_n hx hb dX3_init_16 rfl (lv_at hl 1 rfl) ?_
  refine va_get (ci := 3) (C := RX3) (T := TX3) (N := 3) hx hb hts (fun w hw => in_X3 w hw) hown hK hP (List.length ((((([] : va_W) ++ b_wX4 m0 g q0 f0) ++ b_wX4 m0 g q1 f1) ++ b_wX4 m0 g q2 f2) ++ b_wX4 m0 g q3 f3) + 0) (b_mid ((((([] : va_W) ++ b_wX4 m0 g q0 f0) ++ b_wX4 m0 g q1 f1) ++ b_wX4 m0 g q2 f2) ++ b_wX4 m0 g q3 f3) [(h0, .inr (3, [.ref qr, .int 0, .int 0])), (qr, .inl (g.2.2.1, (6, .inr (.inr (.inr (.inr (va_up (va_up (va_up (va_up (fun _ => none) 0 (some q0)) 1 (some q1)) 2 (some q2)) 3 (some q3))))))))] 0 rfl) rfl 0 (by decide) (hts (.fieldLink RX3 11 "VacantAir$History" "ring" "[LVacantAir$State;") (by decide +kernel)) (fun _ h9 => h9) (v := .ref qr) rfl dX3_init_17 ?_
  refine va_alen hx hb hK hP (List.length ((((([] : va_W) ++ b_wX4 m0 g q0 f0) ++ b_wX4 m0 g q1 f1) ++ b_wX4 m0 g q2 f2) ++ b_wX4 m0 g q3 f3) + 1) 2 (b_mid ((((([] : va_W) ++ b_wX4 m0 g q0 f0) ++ b_wX4 m0 g q1 f1) ++ b_wX4 m0 g q2 f2) ++ b_wX4 m0 g q3 f3) [(h0, .inr (3, [.ref qr, .int 0, .int 0])), (qr, .inl (g.2.2.1, (6, .inr (.inr (.inr (.inr (va_up (va_up (va_up (va_up (fun _ => none) 0 (some q0)) 1 (some q1)) 2 (some q2)) 3 (some q3))))))))] 1 rfl) rfl (v := 6) (show Int32.ofNat 6 = 6 by decide) dX3_init_20 ?_
  refine lv_icmp_ge (tgt := 43) hx hb dX3_init_21 (by decide) (fun h9 => absurd h9 (by decide)) (fun _ => ?_)
  refine lv_aload_n hx hb dX3_init_24 rfl (lv_at hl 1 rfl) ?_
  refine va_get (ci := 3) (C := RX3) (T := TX3) (N := 3) hx hb hts (fun w hw => in_X3 w hw) hown hK hP (List.length ((((([] : va_W) ++ b_wX4 m0 g q0 f0) ++ b_wX4 m0 g q1 f1) ++ b_wX4 m0 g q2 f2) ++ b_wX4 m0 g q3 f3) + 0) (b_mid ((((([] : va_W) ++ b_wX4 m0 g q0 f0) ++ b_wX4 m0 g q1 f1) ++ b_wX4 m0 g q2 f2) ++ b_wX4 m0 g q3 f3) [(h0, .inr (3, [.ref qr, .int 0, .int 0])), (qr, .inl (g.2.2.1, (6, .inr (.inr (.inr (.inr (va_up (va_up (va_up (va_up (fun _ => none) 0 (some q0)) 1 (some q1)) 2 (some q2)) 3 (some q3))))))))] 0 rfl) rfl 0 (by decide) (hts (.fieldLink RX3 11 "VacantAir$History" "ring" "[LVacantAir$State;") (by decide +kernel)) (fun _ h9 => h9) (v := .ref qr) rfl dX3_init_25 ?_
  refine lv_iload_n hx hb dX3_init_28 rfl (lv_at hl 0 rfl) ?_
  refine va_new (ci := 4) (fs := [.null, .null, .null, .null, .int 0, .int 0]) (C := RX4) (T := TX4) (N := 6) hx hb hts in_X3_4 tyX4 tyX4_ok hown (hts (.classLink RX3 9 RX4) (by decide +kernel)) (hts (.instantiable RX4 6) (by decide +kernel)) (hts (.initialized RX4) (by decide +kernel)) hK hP hD hS hA rfl (by decide +kernel) (Nat.le_of_ble_eq_true rfl) (Nat.le_of_ble_eq_true rfl) dX3_init_29 (fun q4 H hP hD hS => ?_)
  refine W.widen (k := 110) (n := 1172) (by decide) (by decide) ?_
  refine lv_dup hx hb dX3_init_32 rfl ?_
  have hlast := b_mid (((((([] : va_W) ++ b_wX4 m0 g q0 f0) ++ b_wX4 m0 g q1 f1) ++ b_wX4 m0 g q2 f2) ++ b_wX4 m0 g q3 f3) ++ [(h0, .inr (3, [.ref qr, .int 0, .int 0])), (qr, .inl (g.2.2.1, (6, .inr (.inr (.inr (.inr (va_up (va_up (va_up (va_up (fun _ => none) 0 (some q0)) 1 (some q1)) 2 (some q2)) 3 (some q3))))))))]) [(q4, (.inr (4, [.null, .null, .null, .null, .int 0, .int 0]) : va_E))] 0 rfl
  refine b_callv (va_runI (As := []) (rest := [.ref q4, .int 4, .ref qr]) ⟨hx, hb, hml, hown, hts⟩ (c_X4 l base D g m0 q4 H.size) (cwI 0 hts gX3_init_X4_init rfl rfl rfl (hts (.initialized RX4) (by decide +kernel)) (hts (.methodLink RX3 17 yX4_init) (by decide +kernel)) (hts (.instanceMethod yX4_init) (by decide +kernel)) rfl (by decide +kernel) ⟨Nat.le_of_ble_eq_true rfl, Nat.le_of_ble_eq_true rfl⟩) (b_pres hSt hTb hS hAb (fun k x hx => by
    have hz : k < 1 := (List.getElem?_eq_some_iff.mp hx).1
    rw [show k = 0 by omega] at hx
    cases hx
    exact hP _ _ hlast) (hD.2 _ _ hlast)) rfl rfl hl.1 rfl (lv_room (Nat.le_of_ble_eq_true rfl)) dX3_init_33 ⟨Nat.le_of_ble_eq_true rfl, Nat.le_of_ble_eq_true rfl⟩) rfl hP hD hS hA (fun f4 H locs hP hD hS => ?_)
  refine W.widen (k := 136) (n := 1456) (by decide) (by decide) ?_
  have hP := va_P.swap (a := ((((([] : va_W) ++ b_wX4 m0 g q0 f0) ++ b_wX4 m0 g q1 f1) ++ b_wX4 m0 g q2 f2) ++ b_wX4 m0 g q3 f3)) (b := [(h0, .inr (3, [.ref qr, .int 0, .int 0])), (qr, .inl (g.2.2.1, (6, .inr (.inr (.inr (.inr (va_up (va_up (va_up (va_up (fun _ => none) 0 (some q0)) 1 (some q1)) 2 (some q2)) 3 (some q3))))))))]) (c := b_wX4 m0 g q4 f4) hP
  have hD := va_D.swap (a := ((((([] : va_W) ++ b_wX4 m0 g q0 f0) ++ b_wX4 m0 g q1 f1) ++ b_wX4 m0 g q2 f2) ++ b_wX4 m0 g q3 f3)) (b := [(h0, .inr (3, [.ref qr, .int 0, .int 0])), (qr, .inl (g.2.2.1, (6, .inr (.inr (.inr (.inr (va_up (va_up (va_up (va_up (fun _ => none) 0 (some q0)) 1 (some q1)) 2 (some q2)) 3 (some q3))))))))]) (c := b_wX4 m0 g q4 f4) hD
  refine va_astq hx hb hK hP hD hS (List.length (((((([] : va_W) ++ b_wX4 m0 g q0 f0) ++ b_wX4 m0 g q1 f1) ++ b_wX4 m0 g q2 f2) ++ b_wX4 m0 g q3 f3) ++ b_wX4 m0 g q4 f4) + 1) 2 (List.length ((((([] : va_W) ++ b_wX4 m0 g q0 f0) ++ b_wX4 m0 g q1 f1) ++ b_wX4 m0 g q2 f2) ++ b_wX4 m0 g q3 f3)) 4 (b_mid (((((([] : va_W) ++ b_wX4 m0 g q0 f0) ++ b_wX4 m0 g q1 f1) ++ b_wX4 m0 g q2 f2) ++ b_wX4 m0 g q3 f3) ++ b_wX4 m0 g q4 f4) [(h0, .inr (3, [.ref qr, .int 0, .int 0])), (qr, .inl (g.2.2.1, (6, .inr (.inr (.inr (.inr (va_up (va_up (va_up (va_up (fun _ => none) 0 (some q0)) 1 (some q1)) 2 (some q2)) 3 (some q3))))))))] 1 rfl) rfl (b_hd ((((([] : va_W) ++ b_wX4 m0 g q0 f0) ++ b_wX4 m0 g q1 f1) ++ b_wX4 m0 g q2 f2) ++ b_wX4 m0 g q3 f3) _ [(h0, .inr (3, [.ref qr, .int 0, .int 0])), (qr, .inl (g.2.2.1, (6, .inr (.inr (.inr (.inr (va_up (va_up (va_up (va_up (fun _ => none) 0 (some q0)) 1 (some q1)) 2 (some q2)) 3 (some q3))))))))] _) rfl (a_in_vp (by decide +kernel)) dX3_init_36 (fun H locs hP hD hS => ?_)
  rw [b_setmid, show Int32.toNatClampNeg 4 = 4 by decide] at hP hD
  have hP : va_P D vwCl ((((((([] : va_W) ++ b_wX4 m0 g q0 f0) ++ b_wX4 m0 g q1 f1) ++ b_wX4 m0 g q2 f2) ++ b_wX4 m0 g q3 f3) ++ b_wX4 m0 g q4 f4) ++ [(h0, .inr (3, [.ref qr, .int 0, .int 0])), (qr, .inl (g.2.2.1, (6, .inr (.inr (.inr (.inr (va_up (va_up (va_up (va_up (va_up (fun _ => none) 0 (some q0)) 1 (some q1)) 2 (some q2)) 3 (some q3)) 4 (some q4))))))))]) H := hP
  have hD : va_D A ((((((([] : va_W) ++ b_wX4 m0 g q0 f0) ++ b_wX4 m0 g q1 f1) ++ b_wX4 m0 g q2 f2) ++ b_wX4 m0 g q3 f3) ++ b_wX4 m0 g q4 f4) ++ [(h0, .inr (3, [.ref qr, .int 0, .int 0])), (qr, .inl (g.2.2.1, (6, .inr (.inr (.inr (.inr (va_up (va_up (va_up (va_up (va_up (fun _ => none) 0 (some q0)) 1 (some q1)) 2 (some q2)) 3 (some q3)) 4 (some q4))))))))]) := hD
  refine lv_iinc (v := 5) (lv' := [(1, .int 5), (0, .ref h0)]) hx hb dX3_init_37 hl (k := 0) rfl (by decide) (by decide) rfl (fun ls hl => ?_)
  refine lv_goto (tgt := 15) hx hb dX3_init_40 (by decide) ?_
  refine lv_iload_n hx hb dX3_init_15 rfl (lv_at hl 0 rfl) ?_
  refine lv_aload_n hx hb dX3_init_16 rfl (lv_at hl 1 rfl) ?_
  refine va_get (ci := 3) (C := RX3) (T := TX3) (N := 3) hx hb hts (fun w hw => in_X3 w hw) hown hK hP (List.length (((((([] : va_W) ++ b_wX4 m0 g q0 f0) ++ b_wX4 m0 g q1 f1) ++ b_wX4 m0 g q2 f2) ++ b_wX4 m0 g q3 f3) ++ b_wX4 m0 g q4 f4) + 0) (b_mid (((((([] : va_W) ++ b_wX4 m0 g q0 f0) ++ b_wX4 m0 g q1 f1) ++ b_wX4 m0 g q2 f2) ++ b_wX4 m0 g q3 f3) ++ b_wX4 m0 g q4 f4) [(h0, .inr (3, [.ref qr, .int 0, .int 0])), (qr, .inl (g.2.2.1, (6, .inr (.inr (.inr (.inr (va_up (va_up (va_up (va_up (va_up (fun _ => none) 0 (some q0)) 1 (some q1)) 2 (some q2)) 3 (some q3)) 4 (some q4))))))))] 0 rfl) rfl 0 (by decide) (hts (.fieldLink RX3 11 "VacantAir$History" "ring" "[LVacantAir$State;") (by decide +kernel)) (fun _ h9 => h9) (v := .ref qr) rfl dX3_init_17 ?_
  refine va_alen hx hb hK hP (List.length (((((([] : va_W) ++ b_wX4 m0 g q0 f0) ++ b_wX4 m0 g q1 f1) ++ b_wX4 m0 g q2 f2) ++ b_wX4 m0 g q3 f3) ++ b_wX4 m0 g q4 f4) + 1) 2 (b_mid (((((([] : va_W) ++ b_wX4 m0 g q0 f0) ++ b_wX4 m0 g q1 f1) ++ b_wX4 m0 g q2 f2) ++ b_wX4 m0 g q3 f3) ++ b_wX4 m0 g q4 f4) [(h0, .inr (3, [.ref qr, .int 0, .int 0])), (qr, .inl (g.2.2.1, (6, .inr (.inr (.inr (.inr (va_up (va_up (va_up (va_up (va_up (fun _ => none) 0 (some q0)) 1 (some q1)) 2 (some q2)) 3 (some q3)) 4 (some q4))))))))] 1 rfl) rfl (v := 6) (show Int32.ofNat 6 = 6 by decide) dX3_init_20 ?_
  refine lv_icmp_ge (tgt := 43) hx hb dX3_init_21 (by decide) (fun h9 => absurd h9 (by decide)) (fun _ => ?_)
  refine lv_aload_n hx hb dX3_init_24 rfl (lv_at hl 1 rfl) ?_
  refine va_get (ci := 3) (C := RX3) (T := TX3) (N := 3) hx hb hts (fun w hw => in_X3 w hw) hown hK hP (List.length (((((([] : va_W) ++ b_wX4 m0 g q0 f0) ++ b_wX4 m0 g q1 f1) ++ b_wX4 m0 g q2 f2) ++ b_wX4 m0 g q3 f3) ++ b_wX4 m0 g q4 f4) + 0) (b_mid (((((([] : va_W) ++ b_wX4 m0 g q0 f0) ++ b_wX4 m0 g q1 f1) ++ b_wX4 m0 g q2 f2) ++ b_wX4 m0 g q3 f3) ++ b_wX4 m0 g q4 f4) [(h0, .inr (3, [.ref qr, .int 0, .int 0])), (qr, .inl (g.2.2.1, (6, .inr (.inr (.inr (.inr (va_up (va_up (va_up (va_up (va_up (fun _ => none) 0 (some q0)) 1 (some q1)) 2 (some q2)) 3 (some q3)) 4 (some q4))))))))] 0 rfl) rfl 0 (by decide) (hts (.fieldLink RX3 11 "VacantAir$History" "ring" "[LVacantAir$State;") (by decide +kernel)) (fun _ h9 => h9) (v := .ref qr) rfl dX3_init_25 ?_
  refine lv_iload_n hx hb dX3_init_28 rfl (lv_at hl 0 rfl) ?_
  refine va_new (ci := 4) (fs := [.null, .null, .null, .null, .int 0, .int 0]) (C := RX4) (T := TX4) (N := 6) hx hb hts in_X3_4 tyX4 tyX4_ok hown (hts (.classLink RX3 9 RX4) (by decide +kernel)) (hts (.instantiable RX4 6) (by decide +kernel)) (hts (.initialized RX4) (by decide +kernel)) hK hP hD hS hA rfl (by decide +kernel) (Nat.le_of_ble_eq_true rfl) (Nat.le_of_ble_eq_true rfl) dX3_init_29 (fun q5 H hP hD hS => ?_)
  refine W.widen (k := 137) (n := 1462) (by decide) (by decide) ?_
  refine lv_dup hx hb dX3_init_32 rfl ?_
  have hlast := b_mid ((((((([] : va_W) ++ b_wX4 m0 g q0 f0) ++ b_wX4 m0 g q1 f1) ++ b_wX4 m0 g q2 f2) ++ b_wX4 m0 g q3 f3) ++ b_wX4 m0 g q4 f4) ++ [(h0, .inr (3, [.ref qr, .int 0, .int 0])), (qr, .inl (g.2.2.1, (6, .inr (.inr (.inr (.inr (va_up (va_up (va_up (va_up (va_up (fun _ => none) 0 (some q0)) 1 (some q1)) 2 (some q2)) 3 (some q3)) 4 (some q4))))))))]) [(q5, (.inr (4, [.null, .null, .null, .null, .int 0, .int 0]) : va_E))] 0 rfl
  refine b_callv (va_runI (As := []) (rest := [.ref q5, .int 5, .ref qr]) ⟨hx, hb, hml, hown, hts⟩ (c_X4 l base D g m0 q5 H.size) (cwI 0 hts gX3_init_X4_init rfl rfl rfl (hts (.initialized RX4) (by decide +kernel)) (hts (.methodLink RX3 17 yX4_init) (by decide +kernel)) (hts (.instanceMethod yX4_init) (by decide +kernel)) rfl (by decide +kernel) ⟨Nat.le_of_ble_eq_true rfl, Nat.le_of_ble_eq_true rfl⟩) (b_pres hSt hTb hS hAb (fun k x hx => by
    have hz : k < 1 := (List.getElem?_eq_some_iff.mp hx).1
    rw [show k = 0 by omega] at hx
    cases hx
    exact hP _ _ hlast) (hD.2 _ _ hlast)) rfl rfl hl.1 rfl (lv_room (Nat.le_of_ble_eq_true rfl)) dX3_init_33 ⟨Nat.le_of_ble_eq_true rfl, Nat.le_of_ble_eq_true rfl⟩) rfl hP hD hS hA (fun f5 H locs hP hD hS => ?_)
  refine W.widen (k := 163) (n := 1746) (by decide) (by decide) ?_
  have hP := va_P.swap (a := (((((([] : va_W) ++ b_wX4 m0 g q0 f0) ++ b_wX4 m0 g q1 f1) ++ b_wX4 m0 g q2 f2) ++ b_wX4 m0 g q3 f3) ++ b_wX4 m0 g q4 f4)) (b := [(h0, .inr (3, [.ref qr, .int 0, .int 0])), (qr, .inl (g.2.2.1, (6, .inr (.inr (.inr (.inr (va_up (va_up (va_up (va_up (va_up (fun _ => none) 0 (some q0)) 1 (some q1)) 2 (some q2)) 3 (some q3)) 4 (some q4))))))))]) (c := b_wX4 m0 g q5 f5) hP
  have hD := va_D.swap (a := (((((([] : va_W) ++ b_wX4 m0 g q0 f0) ++ b_wX4 m0 g q1 f1) ++ b_wX4 m0 g q2 f2) ++ b_wX4 m0 g q3 f3) ++ b_wX4 m0 g q4 f4)) (b := [(h0, .inr (3, [.ref qr, .int 0, .int 0])), (qr, .inl (g.2.2.1, (6, .inr (.inr (.inr (.inr (va_up (va_up (va_up (va_up (va_up (fun _ => none) 0 (some q0)) 1 (some q1)) 2 (some q2)) 3 (some q3)) 4 (some q4))))))))]) (c := b_wX4 m0 g q5 f5) hD
  refine va_astq hx hb hK hP hD hS (List.length ((((((([] : va_W) ++ b_wX4 m0 g q0 f0) ++ b_wX4 m0 g q1 f1) ++ b_wX4 m0 g q2 f2) ++ b_wX4 m0 g q3 f3) ++ b_wX4 m0 g q4 f4) ++ b_wX4 m0 g q5 f5) + 1) 2 (List.length (((((([] : va_W) ++ b_wX4 m0 g q0 f0) ++ b_wX4 m0 g q1 f1) ++ b_wX4 m0 g q2 f2) ++ b_wX4 m0 g q3 f3) ++ b_wX4 m0 g q4 f4)) 4 (b_mid ((((((([] : va_W) ++ b_wX4 m0 g q0 f0) ++ b_wX4 m0 g q1 f1) ++ b_wX4 m0 g q2 f2) ++ b_wX4 m0 g q3 f3) ++ b_wX4 m0 g q4 f4) ++ b_wX4 m0 g q5 f5) [(h0, .inr (3, [.ref qr, .int 0, .int 0])), (qr, .inl (g.2.2.1, (6, .inr (.inr (.inr (.inr (va_up (va_up (va_up (va_up (va_up (fun _ => none) 0 (some q0)) 1 (some q1)) 2 (some q2)) 3 (some q3)) 4 (some q4))))))))] 1 rfl) rfl (b_hd (((((([] : va_W) ++ b_wX4 m0 g q0 f0) ++ b_wX4 m0 g q1 f1) ++ b_wX4 m0 g q2 f2) ++ b_wX4 m0 g q3 f3) ++ b_wX4 m0 g q4 f4) _ [(h0, .inr (3, [.ref qr, .int 0, .int 0])), (qr, .inl (g.2.2.1, (6, .inr (.inr (.inr (.inr (va_up (va_up (va_up (va_up (va_up (fun _ => none) 0 (some q0)) 1 (some q1)) 2 (some q2)) 3 (some q3)) 4 (some q4))))))))] _) rfl (a_in_vp (by decide +kernel)) dX3_init_36 (fun H locs hP hD hS => ?_)
  rw [b_setmid, show Int32.toNatClampNeg 5 = 5 by decide] at hP hD
  have hP : va_P D vwCl (((((((([] : va_W) ++ b_wX4 m0 g q0 f0) ++ b_wX4 m0 g q1 f1) ++ b_wX4 m0 g q2 f2) ++ b_wX4 m0 g q3 f3) ++ b_wX4 m0 g q4 f4) ++ b_wX4 m0 g q5 f5) ++ [(h0, .inr (3, [.ref qr, .int 0, .int 0])), (qr, .inl (g.2.2.1, (6, .inr (.inr (.inr (.inr (va_up (va_up (va_up (va_up (va_up (va_up (fun _ => none) 0 (some q0)) 1 (some q1)) 2 (some q2)) 3 (some q3)) 4 (some q4)) 5 (some q5))))))))]) H := hP
  have hD : va_D A (((((((([] : va_W) ++ b_wX4 m0 g q0 f0) ++ b_wX4 m0 g q1 f1) ++ b_wX4 m0 g q2 f2) ++ b_wX4 m0 g q3 f3) ++ b_wX4 m0 g q4 f4) ++ b_wX4 m0 g q5 f5) ++ [(h0, .inr (3, [.ref qr, .int 0, .int 0])), (qr, .inl (g.2.2.1, (6, .inr (.inr (.inr (.inr (va_up (va_up (va_up (va_up (va_up (va_up (fun _ => none) 0 (some q0)) 1 (some q1)) 2 (some q2)) 3 (some q3)) 4 (some q4)) 5 (some q5))))))))]) := hD
  refine lv_iinc (v := 6) (lv' := [(1, .int 6), (0, .ref h0)]) hx hb dX3_init_37 hl (k := 0) rfl (by decide) (by decide) rfl (fun ls hl => ?_)
  refine lv_goto (tgt := 15) hx hb dX3_init_40 (by decide) ?_
  refine lv_iload_n hx hb dX3_init_15 rfl (lv_at hl 0 rfl) ?_
  refine lv_aload_n hx hb dX3_init_16 rfl (lv_at hl 1 rfl) ?_
  refine va_get (ci := 3) (C := RX3) (T := TX3) (N := 3) hx hb hts (fun w hw => in_X3 w hw) hown hK hP (List.length ((((((([] : va_W) ++ b_wX4 m0 g q0 f0) ++ b_wX4 m0 g q1 f1) ++ b_wX4 m0 g q2 f2) ++ b_wX4 m0 g q3 f3) ++ b_wX4 m0 g q4 f4) ++ b_wX4 m0 g q5 f5) + 0) (b_mid ((((((([] : va_W) ++ b_wX4 m0 g q0 f0) ++ b_wX4 m0 g q1 f1) ++ b_wX4 m0 g q2 f2) ++ b_wX4 m0 g q3 f3) ++ b_wX4 m0 g q4 f4) ++ b_wX4 m0 g q5 f5) [(h0, .inr (3, [.ref qr, .int 0, .int 0])), (qr, .inl (g.2.2.1, (6, .inr (.inr (.inr (.inr (va_up (va_up (va_up (va_up (va_up (va_up (fun _ => none) 0 (some q0)) 1 (some q1)) 2 (some q2)) 3 (some q3)) 4 (some q4)) 5 (some q5))))))))] 0 rfl) rfl 0 (by decide) (hts (.fieldLink RX3 11 "VacantAir$History" "ring" "[LVacantAir$State;") (by decide +kernel)) (fun _ h9 => h9) (v := .ref qr) rfl dX3_init_17 ?_
  refine va_alen hx hb hK hP (List.length ((((((([] : va_W) ++ b_wX4 m0 g q0 f0) ++ b_wX4 m0 g q1 f1) ++ b_wX4 m0 g q2 f2) ++ b_wX4 m0 g q3 f3) ++ b_wX4 m0 g q4 f4) ++ b_wX4 m0 g q5 f5) + 1) 2 (b_mid ((((((([] : va_W) ++ b_wX4 m0 g q0 f0) ++ b_wX4 m0 g q1 f1) ++ b_wX4 m0 g q2 f2) ++ b_wX4 m0 g q3 f3) ++ b_wX4 m0 g q4 f4) ++ b_wX4 m0 g q5 f5) [(h0, .inr (3, [.ref qr, .int 0, .int 0])), (qr, .inl (g.2.2.1, (6, .inr (.inr (.inr (.inr (va_up (va_up (va_up (va_up (va_up (va_up (fun _ => none) 0 (some q0)) 1 (some q1)) 2 (some q2)) 3 (some q3)) 4 (some q4)) 5 (some q5))))))))] 1 rfl) rfl (v := 6) (show Int32.ofNat 6 = 6 by decide) dX3_init_20 ?_
  refine lv_icmp_ge (tgt := 43) hx hb dX3_init_21 (by decide) (fun _ => ?_) (fun h9 => absurd (by decide) h9)
  have hP := b_reP (e' := .inl (g.2.2.1, (6, .inr (.inr (.inr (.inr (fun j => some ((fun b => [b_sq q0 f0, b_sq q1 f1, b_sq q2 f2, b_sq q3 f3, b_sq q4 f4, b_sq q5 f5].getD b (fun _ => 0)) j 0)))))))) hP (k := 1) rfl (fun h => by
    refine Eq.trans h (congrArg some (b_refs (fun j hj => ?_)))
    rcases (show j = 0 ∨ j = 1 ∨ j = 2 ∨ j = 3 ∨ j = 4 ∨ j = 5 by omega) with rfl | rfl | rfl | rfl | rfl | rfl <;> rfl)
  have hD := b_reD (e' := .inl (g.2.2.1, (6, .inr (.inr (.inr (.inr (fun j => some ((fun b => [b_sq q0 f0, b_sq q1 f1, b_sq q2 f2, b_sq q3 f3, b_sq q4 f4, b_sq q5 f5].getD b (fun _ => 0)) j 0)))))))) hD (k := 1) rfl
  refine W.vret hx hb hr (fun t ht hW => ⟨⟨(qr, (fun b => [b_sq q0 f0, b_sq q1 f1, b_sq q2 f2, b_sq q3 f3, b_sq q4 f4, b_sq q5 f5].getD b (fun _ => 0))), rfl, trivial, ?_, ?_⟩, hS.F ht⟩) hS.2.2 dX3_init_43
  · rw [ht]; exact hP
  · exact hD
