/-! the abstract machine's runs, sound against the machine -/
theorem a_lkm {k : Nat} {v : aR} : ∀ {l : List (Nat × aR)}, l.lookup k = some v → (k, v) ∈ l
  | [], h => by cases h
  | (a, b) :: l, h => by
    rw [List.lookup_cons] at h
    by_cases hk : k = a
    · subst hk
      simp only [BEq.rfl] at h
      cases h
      exact List.mem_cons_self
    · rw [show (k == a) = false by simpa using hk] at h
      exact List.mem_cons_of_mem _ (a_lkm h)
theorem a_len_eq : a_ct.length = a_mt.length := by decide +kernel
theorem a_look_ok {q pc : Nat} {r : aR} (h : a_look q pc = some r) : ∃ M, a_mt[q]? = some M ∧ a_chk M pc r = true := by
  unfold a_look at h
  rw [List.getD_eq_getElem?_getD] at h
  cases hc : a_ct[q]? with
  | none => rw [hc] at h; cases h
  | some c =>
    rw [hc] at h
    have hm := a_lkm h
    have hq := (List.getElem?_eq_some_iff.mp hc).1
    have hM : a_mt[q]? = some (a_mt[q]'(a_len_eq ▸ hq)) := List.getElem?_eq_getElem _
    refine ⟨_, hM, ?_⟩
    have hz : (a_ct.zip a_mt)[q]? = some (c, a_mt[q]'(a_len_eq ▸ hq)) := List.getElem?_zip_eq_some.mpr ⟨hc, hM⟩
    exact List.all_eq_true.mp (a_z _ (List.mem_of_getElem? hz)) (pc, r) hm
theorem a_mtl_ok {q : Nat} {M : aMt} (h : a_mt[q]? = some M) (hq : q < 115) : M ∈ a_mtl := by
  unfold a_mt at h
  rw [List.getElem?_append_left (show q < a_mtl.length by rw [show a_mtl.length = 115 by decide +kernel]; exact hq)] at h
  exact List.mem_of_getElem? h
theorem a_step_keeps {ins : Instr} {a b pc : Nat} {ls : aL} {st : List aV} {m : aM} {pc1 : Nat} {ls1 : aL} {st1 : List aV} {m1 : aM} (h : a_step ins a b pc ls st m = some (pc1, ls1, st1, m1)) : ∀ c, 41 ≤ c → m1 c = m c := by
  cases ins with
  | aload_n kk => obtain ⟨_, _, _, h⟩ := a_lr_i h; cases h; exact fun _ _ => rfl
  | aload kk => obtain ⟨_, _, _, h⟩ := a_lr_i h; cases h; exact fun _ _ => rfl
  | iload_n kk => obtain ⟨_, _, h⟩ := a_l1_i h; cases h; exact fun _ _ => rfl
  | iload kk => obtain ⟨_, _, h⟩ := a_l1_i h; cases h; exact fun _ _ => rfl
  | istore_n kk => obtain ⟨_, _, _, h⟩ := a_p1_i h; obtain ⟨_, h⟩ := a_if_i h; cases h; exact fun _ _ => rfl
  | istore kk => obtain ⟨_, _, _, h⟩ := a_p1_i h; obtain ⟨_, h⟩ := a_if_i h; cases h; exact fun _ _ => rfl
  | astore_n kk => obtain ⟨_, _, _, _, h⟩ := a_pr_i h; obtain ⟨_, h⟩ := a_if_i h; cases h; exact fun _ _ => rfl
  | iinc kk n => obtain ⟨_, _, h⟩ := a_l1_i h; obtain ⟨_, h⟩ := a_if_i h; cases h; exact fun _ _ => rfl
  | iconst n => cases h; exact fun _ _ => rfl
  | bipush n => cases h; exact fun _ _ => rfl
  | sipush n => cases h; exact fun _ _ => rfl
  | iadd => obtain ⟨_, _, _, _, h⟩ := a_p2_i h; cases h; exact fun _ _ => rfl
  | isub => obtain ⟨_, _, _, _, h⟩ := a_p2_i h; cases h; exact fun _ _ => rfl
  | imul => obtain ⟨_, _, _, _, h⟩ := a_p2_i h; cases h; exact fun _ _ => rfl
  | iand => obtain ⟨_, _, _, _, h⟩ := a_p2_i h; cases h; exact fun _ _ => rfl
  | ixor => obtain ⟨_, _, _, _, h⟩ := a_p2_i h; cases h; exact fun _ _ => rfl
  | ishr => obtain ⟨_, _, _, _, h⟩ := a_p2_i h; cases h; exact fun _ _ => rfl
  | ldc idx => cases h; exact fun _ _ => rfl
  | idiv => obtain ⟨_, _, _, _, h⟩ := a_p2_i h; obtain ⟨_, h⟩ := a_if_i h; cases h; exact fun _ _ => rfl
  | irem => obtain ⟨_, _, _, _, h⟩ := a_p2_i h; obtain ⟨_, h⟩ := a_if_i h; cases h; exact fun _ _ => rfl
  | dup => obtain ⟨_, _, _, h⟩ := a_p0_i h; cases h; exact fun _ _ => rfl
  | dup2 => obtain ⟨_, _, _, _, h⟩ := a_pv_i h; cases h; exact fun _ _ => rfl
  | pop => obtain ⟨_, _, _, h⟩ := a_p0_i h; cases h; exact fun _ _ => rfl
  | goto o => cases h; exact fun _ _ => rfl
  | ifCond cnd o => obtain ⟨_, _, _, h⟩ := a_p1_i h; cases h; exact fun _ _ => rfl
  | if_icmp cnd o => obtain ⟨_, _, _, _, h⟩ := a_p2_i h; cases h; exact fun _ _ => rfl
  | tableswitch dflt lo hi offs => obtain ⟨_, _, _, h⟩ := a_p1_i h; obtain ⟨_, h⟩ := a_if_i h; cases h; exact fun _ _ => rfl
  | lookupswitch dflt ps => obtain ⟨_, _, _, h⟩ := a_p1_i h; obtain ⟨_, h⟩ := a_if_i h; cases h; exact fun _ _ => rfl
  | getfield idx =>
    obtain ⟨_, _, _, _, h⟩ := a_pr_i h
    obtain ⟨_, h⟩ := a_if_i h
    split at h <;> (cases h; exact fun _ _ => rfl)
  | putfield idx =>
    obtain ⟨x, c1, d1, t, rfl, h⟩ := a_p1r_i h
    obtain ⟨⟨⟨hkd, -⟩, -⟩, h⟩ := a_if_i h
    cases h
    have hc41 : c1 < 40 := a_kd_3 (by rw [hkd]; exact Nat.zero_le _)
    exact fun c' hc' => a_up_c _ _ _ _ _ _ (by omega)
  | getstatic idx => cases h; exact fun _ _ => rfl
  | iaload => obtain ⟨_, _, _, _, _, h⟩ := a_p1r_i h; obtain ⟨_, h⟩ := a_if_i h; cases h; exact fun _ _ => rfl
  | baload => obtain ⟨_, _, _, _, _, h⟩ := a_p1r_i h; obtain ⟨_, h⟩ := a_if_i h; cases h; exact fun _ _ => rfl
  | aaload => obtain ⟨_, _, _, _, _, h⟩ := a_p1r_i h; obtain ⟨_, h⟩ := a_if_i h; cases h; exact fun _ _ => rfl
  | iastore =>
    obtain ⟨x, i, c1, d1, t, rfl, h⟩ := a_p2r_i h
    obtain ⟨⟨ht, -⟩, h⟩ := a_if_i h
    cases h
    have hc41 : c1 < 40 := a_kd_3 (by omega)
    exact fun c' hc' => a_up_c _ _ _ _ _ _ (by omega)
  | bastore =>
    obtain ⟨x, i, c1, d1, t, rfl, h⟩ := a_p2r_i h
    obtain ⟨⟨⟨ht, -⟩, -⟩, h⟩ := a_if_i h
    cases h
    have hc41 : c1 < 40 := a_kd_3 (by omega)
    exact fun c' hc' => a_up_c _ _ _ _ _ _ (by omega)
  | arraylength => obtain ⟨_, _, _, _, h⟩ := a_pr_i h; obtain ⟨_, h⟩ := a_if_i h; cases h; exact fun _ _ => rfl
  | invokestatic idx =>
    change (if a = 1000 then _ else _) = some _ at h
    by_cases ha : a = 1000
    · rw [if_pos ha] at h
      obtain ⟨_, _, _, _, h⟩ := a_p2_i h; obtain ⟨_, h⟩ := a_if_i h; cases h; exact fun _ _ => rfl
    · rw [if_neg ha] at h
      by_cases ha1 : a = 1001
      · rw [if_pos ha1] at h
        obtain ⟨n, dp, c1, b1, sp, c0, b0, rfl, h⟩ := a_pcp_i h
        obtain ⟨⟨⟨t0, t1⟩, -⟩, h⟩ := a_if_i h
        cases h
        have hc1 : c1 < 40 := a_kd_3 (by omega)
        intro c' hc'
        funext b' j
        show (if c' = c1 ∧ b' = b1 then _ else _) = _
        rw [if_neg (fun q => by omega)]
      · rw [if_neg ha1] at h
        cases h
  | _ => exact absurd h (fun q => by cases (show (none : Option aS) = some _ from q))
theorem a_run_keeps : ∀ (n : Nat) {q pc : Nat} {ls : aL} {st : List aV} {m : aM} {r : Option aV} {m' : aM}, a_run n q pc ls st m = some (r, m') → ∀ c, 41 ≤ c → m' c = m c := by
  intro n
  induction n with
  | zero => intro q pc ls st m r m' h; cases h
  | succ n ih =>
    intro q pc ls st m r m' h
    unfold a_run at h
    split at h
    · cases h
    · split at h
      · rename_i hst
        exact fun c hc => (ih h c hc).trans (a_step_keeps hst c hc)
      · split at h
        · split at h
          · rename_i h1
            exact fun c hc => (ih h c hc).trans (ih h1 c hc)
          · cases h
        · split at h
          · cases h; exact fun _ _ => rfl
          · cases h
theorem a_ret_int {ret : Option FieldType} {ins : Instr} {st : List aV} {r : Option aV} (h : a_ret ret ins st = some r) : r = none ∨ ∃ v, r = some (.inl v) := by
  unfold a_ret at h
  split at h
  · cases h; exact Or.inr ⟨_, rfl⟩
  · obtain ⟨-, h⟩ := a_if_i h; cases h; exact Or.inr ⟨_, rfl⟩
  · cases h; exact Or.inl rfl
  · cases h
theorem a_run_int : ∀ (n : Nat) {q pc : Nat} {ls : aL} {st : List aV} {m : aM} {r : Option aV} {m' : aM}, a_run n q pc ls st m = some (r, m') → r = none ∨ ∃ v, r = some (.inl v) := by
  intro n
  induction n with
  | zero => intro q pc ls st m r m' h; cases h
  | succ n ih =>
    intro q pc ls st m r m' h
    unfold a_run at h
    split at h
    · cases h
    · split at h
      · exact ih h
      · split at h
        · split at h
          · exact ih h
          · cases h
        · split at h
          · rename_i hr
            cases h
            exact a_ret_int hr
          · cases h
def a_Pre (base : Nat) (D : va_G) (g : aG) (m : aM) (U : State) : Prop := a_Dyn base D g m U.heap ∧ a_Sta base D g m U
def a_Qc (base : Nat) (D : va_G) (g : aG) (r : Option aV) (m : aM) : Array Value → State → Outcome → State → Prop := match r with
  | some (.inl v) => va_Qi (S := Unit) (fun x _ => x = v) (fun _ t => a_Pre base D g m t) (a_A base)
  | none => va_Qv (S := Unit) (fun _ => True) (fun _ t => a_Pre base D g m t) (a_A base)
  | some (.inr _) => fun _ _ _ _ => False
def a_RM (d : Nat) : Room := { frames := d, cells := 0, slots := 0, locals := 40 * d }
theorem a_Sta_m {base : Nat} {D : va_G} {g : aG} {m m' : aM} {U : State} (hm : ∀ c, 41 ≤ c → m' c = m c) (h : a_Sta base D g m U) : a_Sta base D g m' U := by
  obtain ⟨a1, a2, a3, a6⟩ := h
  refine ⟨a1, fun c q1 q2 => ?_, ?_, a6⟩
  · rw [hm c q1]; exact a2 c q1 q2
  · rw [hm 46 (by omega), hm 47 (by omega)]; exact a3
theorem a_blind {base : Nat} {D : va_G} {g : aG} {m : aM} {as : List Value} : FrameBlind (va_Pc as (fun U => a_Pre base D g m U)) := fun _ U _ _ q => ⟨q.1, q.2.1, a_Sta_same (u := U) rfl rfl q.2.2⟩
/-- what the soundness of runs of n steps says -/
def a_Snd (l : Launch) (base : Nat) (D : va_G) (g : aG) (n : Nat) : Prop :=
  ∀ (q pc : Nat) (ls : aL) (st : List aV) (m : aM) (r : Option aV) (m' : aM), a_run n q pc ls st m = some (r, m') →
  ∀ (p : Program) (e : Env) (R : Room) (s : State) (mI : MethodId) (args : Array Value) (below : List Frame) (meth : Method) (cd : Code) (cells slots : Nat) (Q : State → Prop) (M : aMt), a_mt[q]? = some M →
  p.tables.exec = Jvm.exec → cd.code = M.2.1 → cd.maxLocals = M.2.2.1 → s.vm.findClass M.1.cls = some mI.cls → (∀ w ∈ wsL_law, w.before args s = true) →
  (M.2.2.2.2.1 ≤ R.frames ∧ 40 * M.2.2.2.2.1 ≤ R.locals ∧ cells ≤ R.cells ∧ slots ≤ R.slots) → a_Sta base D g m s → ∀ (H : Heap) (locs : List Loc), a_Dyn base D g m H → va_S (a_A base) s.heap H locs →
  ∀ (ls' : Array Slot), a_LS g ls ls' M.2.2.1 → (∀ v ∈ st, a_vv v) →
  (∀ (H1 : Heap) (locs1 : List Loc) (ls1 : Array Slot) (pc1 : Nat) (ins : Instr) (st1 : List aV), decode M.2.1 pc1 = .ok (ins, 1) → a_ret M.2.2.2.1 ins st1 = some r → a_Dyn base D g m' H1 → va_S (a_A base) s.heap H1 locs1 → (∀ c, 41 ≤ c → m' c = m c) →
    W p l e R s mI args below meth cd H1 locs1 cells slots Q (F0 mI pc1 ls1 (st1.map (a_cv g.2.2.2)))) →
  W p l e R s mI args below meth cd H locs cells slots Q (F0 mI pc ls' (st.map (a_cv g.2.2.2)))
theorem a_sl_len (ad : Nat → Nat → Nat) : ∀ as : List aV, (lg_sl (as.map (a_cv ad))).length = as.length
  | [] => rfl
  | v :: as => by
    have := a_sl_len ad as
    unfold lg_sl at this ⊢
    rw [List.map_cons, List.flatMap_cons, if_neg (by rw [a_cv_cat]; decide), List.length_append, this]
    show 1 + as.length = _
    rw [List.length_cons]
    omega
theorem a_good : GoodIn wsL_law wsL_law := fun w hw => ⟨hw, good_of_word (List.all_eq_true.mp (show wsL_law.all goodWord = true by decide +kernel) w hw)⟩
set_option maxHeartbeats 4000000 in
theorem a_met {l : Launch} {base : Nat} {D : va_G} {g : aG} {n : Nat} (hs : a_Snd l base D g n) {q : Nat} {as : List aV} {m : aM} {r : Option aV} {m' : aM} (hrun : a_run n q 0 (a_ent q as) [] m = some (r, m')) {y : MethodName} {cc : ByteArray} {maxL : Nat} {ret : Option FieldType} {dep k0 k1 k2 k3 k4 : Nat} (hM : a_mt[q]? = some (y, cc, maxL, ret, dep, k0, k1, k2, k3, k4)) (hpl : plainName y.cls = true) (hlen : as.length ≤ maxL) (hv : ∀ v ∈ as, a_vv v) :
    Met l y (Cond.code y cc maxL ret :: wsL_law) (a_RM dep) (va_Pc (as.map (a_cv g.2.2.2)) (fun U => a_Pre base D g m U)) (a_Qc base D g r m') 0 0 (a_A base) := by
  refine Met.ofW (cc := cc) (maxL := maxL) (ret := ret) hpl rfl ?_
  intro p e s mI args below meth cd s₁ B hml hv0
  obtain ⟨rfl, hpre⟩ := hv0
  have hts := atoms_spec (ws := Cond.code y cc maxL ret :: wsL_law) B.pre
  have hown : s.vm.findClass y.cls = some mI.cls := findClass_of_methodNamed B.named
  have hlocks := B.notSynchronized
  have hr := B.returns
  rw [lg_entry_eq]
  have hl := lv_entry (as.map (a_cv g.2.2.2)) (n := maxL) (by rw [a_sl_len]; exact hlen)
  generalize (lg_sl (as.map (a_cv g.2.2.2)) ++ List.replicate (maxL - (lg_sl (as.map (a_cv g.2.2.2))).length) Slot.unset).toArray = ls at hl ⊢
  have hent : a_ent q as = as.map some ++ List.replicate (maxL - as.length) none := by
    unfold a_ent a_ml
    rw [hM]
  have hLS : a_LS g (a_ent q as) ls maxL := by
    rw [hent]
    exact a_LS_entry as hlen hv hl
  refine hs q 0 (a_ent q as) [] m r m' hrun p e _ s mI _ below meth cd 0 0 _ _ hM B.exec B.bytes hml hown (fun w hw => hts w (List.mem_cons_of_mem _ hw)) ⟨Nat.le_refl _, Nat.le_refl _, Nat.le_refl _, Nat.le_refl _⟩ hpre.2 s.heap [] hpre.1 va_S.rf ls hLS (fun v h9 => absurd h9 List.not_mem_nil) ?_
  intro H1 locs1 ls1 pc1 ins st1 hd hret hD1 hS1 hm1
  have hPt : ∀ t : State, t.heap = H1 → s.WarmedH t.vm → a_Pre base D g m' t := fun t ht hW => ⟨ht ▸ hD1, a_Sta_moved hW (by rw [ht]; exact hS1.1) (by rw [ht]; exact hS1.2.1) hm1 hpre.2⟩
  dsimp only at hd hret
  unfold a_ret at hret
  split at hret
  · rename_i v
    cases hret
    exact W.iret (v := v) B.exec B.bytes hr (fun t ht hW => ⟨⟨v, (), rfl, rfl, hPt t ht hW⟩, hS1.F ht⟩) hS1.2.2 hd
  · rename_i v
    obtain ⟨h01, hret⟩ := a_if_i hret
    cases hret
    exact W.zret (v := v) (ty := .boolean) B.exec B.bytes hr (by rcases h01 with rfl | rfl <;> decide) (fun t ht hW => ⟨⟨v, (), rfl, rfl, hPt t ht hW⟩, hS1.F ht⟩) hS1.2.2 hd
  · cases hret
    exact W.vret B.exec B.bytes hr (fun t ht hW => ⟨⟨(), rfl, trivial, hPt t ht hW⟩, hS1.F ht⟩) hS1.2.2 hd
  · cases hret
theorem a_cat_len (ad : Nat → Nat → Nat) : ∀ t : List aV, ((t.map (a_cv ad)).map fun v => v.category).sum = t.length
  | [] => rfl
  | v :: t => by rw [List.map_cons, List.map_cons, List.sum_cons, a_cat_len ad t, a_cv_cat, List.length_cons]; omega
set_option maxHeartbeats 8000000 in
theorem a_sound (l : Launch) (base : Nat) (D : va_G) (g : aG) : ∀ n, a_Snd l base D g n := by
  intro n
  induction n with
  | zero => intro q pc ls st m r m' h; cases h
  | succ n ih =>
    intro q pc ls st m r m' h p e R s mI args below meth cd cells slots Q M hM hexec hb hml hown hts hR hSt H locs hDy hS ls' hl hv hret
    unfold a_run at h
    cases hlk : a_look q pc with
    | none => rw [hlk] at h; cases h
    | some rw0 =>
      obtain ⟨ins, a, b, w⟩ := rw0
      rw [hlk] at h
      dsimp only at h
      obtain ⟨M', hM', hchk⟩ := a_look_ok hlk
      obtain rfl : M' = M := Option.some.inj (hM'.symm.trans hM)
      cases hst : a_step ins a b pc ls st m with
      | some z =>
        obtain ⟨pc1, ls1, st1, m1⟩ := z
        rw [hst] at h
        dsimp only at h
        exact a_snd_step hexec hb hml hown hts hR hSt hDy hS hl hv hchk hst (fun H1 locs1 ls1' hDy1 hS1 hl1 hv1 hm1 => ih q pc1 ls1 st1 m1 r m' h p e R s mI args below meth cd cells slots Q M' hM hexec hb hml hown hts hR (a_Sta_m hm1 hSt) H1 locs1 hDy1 hS1 ls1' hl1 hv1 (fun H2 locs2 ls2 pc2 ins2 st2 hd hr hD2 hS2 hm2 => hret H2 locs2 ls2 pc2 ins2 st2 hd hr hD2 hS2 (fun c hc => (hm2 c hc).trans (hm1 c hc))))
      | none =>
        rw [hst] at h
        dsimp only at h
        unfold a_chk at hchk
        rw [Bool.and_eq_true] at hchk
        obtain ⟨hdg, hc2⟩ := hchk
        have hdg := of_decide_eq_true hdg
        cases hcl : a_call ins a b st with
        | none =>
          rw [hcl] at h
          dsimp only at h
          cases hr : a_ret (a_rt q) ins st with
          | none => rw [hr] at h; cases h
          | some r0 =>
            rw [hr] at h
            dsimp only at h
            cases h
            have hrt : a_rt q = M'.2.2.2.1 := by unfold a_rt; rw [hM]
            rw [hrt] at hr
            have h1 : a_len ins b = 1 := by
              unfold a_ret at hr
              split at hr
              · rfl
              · rfl
              · rfl
              · cases hr
            rw [h1] at hdg
            exact hret H locs ls' pc ins st hdg hr hDy hS (fun _ _ => rfl)
        | some z =>
          obtain ⟨as, t⟩ := z
          rw [hcl] at h
          dsimp only at h
          cases hr1 : a_run n a 0 (a_ent a as) [] m with
          | none => rw [hr1] at h; cases h
          | some z1 =>
            obtain ⟨r1, m1⟩ := z1
            rw [hr1] at h
            dsimp only at h
            have hm1 := a_run_keeps n hr1
            -- the call
            have key : va_Run p l e R s mI args below meth cd H locs cells slots 0 0 (F0 mI pc ls' (st.map (a_cv g.2.2.2))) (t.map (a_cv g.2.2.2)) (a_Qc base D g r1 m1 (as.map (a_cv g.2.2.2)).toArray) (a_A base) ∧ ∀ v ∈ t, a_vv v := by
              have hPc : ∀ U : State, U.heap = H → s.WarmedH U.vm → va_Pc (as.map (a_cv g.2.2.2)) (fun U => a_Pre base D g m U) (as.map (a_cv g.2.2.2)).toArray U := fun U hU hW => ⟨rfl, hU ▸ hDy, a_Sta_moved hW (by rw [hU]; exact hS.1) (by rw [hU]; exact hS.2.1) (fun _ _ => rfl) hSt⟩
              cases ins with
              | invokevirtual i =>
                unfold a_call at hcl
                obtain ⟨⟨⟨hn1, hn2⟩, hrcv⟩, hcl⟩ := a_if_i hcl
                have hast : as = (st.take b).reverse ∧ t = st.drop b := by cases hcl; exact ⟨rfl, rfl⟩
                have hsplit : st = as.reverse ++ t := by rw [hast.1, hast.2, List.reverse_reverse, List.take_append_drop]
                have haslen : as.length = b := by rw [hast.1, List.length_reverse, List.length_take]; omega
                have htlen : t.length ≤ 8 := by rw [hast.2, List.length_drop]; omega
                rw [← hast.1] at hrcv
                have hvas : ∀ v ∈ as, a_vv v := fun v h9 => hv v (by rw [hsplit]; exact List.mem_append_left _ (List.mem_reverse.mpr h9))
                have hvt : ∀ v ∈ t, a_vv v := fun v h9 => hv v (by rw [hsplit]; exact List.mem_append_right _ h9)
                refine ⟨?_, hvt⟩
                dsimp only at hc2
                cases hq2 : a_mt[a]? with
                | none => rw [hq2] at hc2; cases hc2
                | some M2 =>
                  obtain ⟨y, cc, maxL, ret, dep, ci, k1, k2, k3, k4⟩ := M2
                  rw [hq2] at hc2
                  simp only [Bool.and_eq_true, decide_eq_true_eq] at hc2
                  obtain ⟨⟨⟨⟨⟨⟨hw, hw1⟩, hw2⟩, hdep⟩, hnp, hb1, hbL⟩, hcn⟩, ha115⟩ := hc2
                  have hmok := a_moks _ (a_mtl_ok hq2 ha115)
                  have hwc := a_cws _ (a_mtl_ok hq2 ha115)
                  simp only [a_mok, Bool.and_eq_true, decide_eq_true_eq] at hmok
                  obtain ⟨⟨⟨hwi, hny⟩, hpl⟩, hL9⟩ := hmok
                  have hMet := a_met (D := D) (g := g) (base := base) (l := l) ih hr1 hq2 hpl (by rw [haslen]; exact hbL) hvas
                  cases as with
                  | nil => simp at haslen; omega
                  | cons v0 As =>
                    cases v0 with
                    | inl x => cases hrcv
                    | inr r0 =>
                      obtain ⟨c0, d0⟩ := r0
                      have hkd := of_decide_eq_true (show decide (a_kd c0 = (0, a_ci a)) = true from hrcv)
                      have hci : a_ci a = ci := by unfold a_ci; rw [hq2]
                      rw [hci] at hkd
                      have hvr : a_vr c0 d0 := hvas (.inr (c0, d0)) List.mem_cons_self
                      have hc41 : c0 < 40 := a_kd_3 (by rw [hkd]; exact Nat.zero_le _)
                      have hws := a_ws_get g m hvr hc41
                      have hcell : a_cell g m c0 d0 = .inr (ci, (List.range (a_nf c0)).map (a_fv g.2.2.2 m c0 d0)) := by simp only [a_cell, hkd]
                      rw [hcell] at hws
                      cases hqc : vwCl[ci]? with
                      | none => rw [hqc] at hcn; cases hcn
                      | some qc =>
                        rw [hqc] at hcn
                        have hcn : qc.1 = y.cls := Option.some.inj hcn
                        have hrecv := va_recv hSt.1 hDy.1 hqc hws
                        rw [hcn] at hrecv
                        have hAn : As.length = b - 1 := by simp at haslen; omega
                        exact va_runV (b := g.2.2.2 c0 d0) (As := As.map (a_cv g.2.2.2)) (rest := t.map (a_cv g.2.2.2)) ⟨hexec, hb, hml, hown, hts⟩ hMet
                          ⟨callB_of (ws' := wsL_law) (b - 1) hts (fun w h9 => (List.mem_cons.mp h9).elim (fun q => by rw [q]; exact a_good _ hwc) (fun q => a_good w q)) rfl rfl rfl (hts _ (a_wsp hwi)) (hts _ (a_wsp hw)) ⟨hny.1, hny.2, hnp⟩ ⟨by show dep + 1 ≤ _; omega, by show 8 + (maxL + 11) + 40 * dep ≤ _; omega⟩, hts _ (a_wsp hw1), hts _ (a_wsp hw2)⟩
                          ⟨a_blind, hrecv, hPc⟩ rfl (by rw [List.length_map]; exact hAn) hl.1
                          (by show st.map _ = _; rw [hsplit, List.map_append, List.map_reverse, List.map_cons, List.reverse_cons, List.append_assoc]; rfl)
                          (lv_room (by rw [a_cat_len]; exact htlen)) hdg ⟨hR.2.2.1, hR.2.2.2⟩
              | invokestatic i =>
                unfold a_call at hcl
                obtain ⟨⟨ha1000, hn1, hn2⟩, hcl⟩ := a_if_i hcl
                have hast : as = (st.take b).reverse ∧ t = st.drop b := by cases hcl; exact ⟨rfl, rfl⟩
                have hsplit : st = as.reverse ++ t := by rw [hast.1, hast.2, List.reverse_reverse, List.take_append_drop]
                have haslen : as.length = b := by rw [hast.1, List.length_reverse, List.length_take]; omega
                have htlen : t.length ≤ 8 := by rw [hast.2, List.length_drop]; omega
                have hvas : ∀ v ∈ as, a_vv v := fun v h9 => hv v (by rw [hsplit]; exact List.mem_append_left _ (List.mem_reverse.mpr h9))
                have hvt : ∀ v ∈ t, a_vv v := fun v h9 => hv v (by rw [hsplit]; exact List.mem_append_right _ h9)
                refine ⟨?_, hvt⟩
                dsimp only at hc2
                rw [Bool.and_eq_true, if_neg (by omega), if_neg (by omega)] at hc2
                cases hq2 : a_mt[a]? with
                | none => rw [hq2] at hc2; cases hc2.2
                | some M2 =>
                  obtain ⟨y, cc, maxL, ret, dep, ci, k1, k2, k3, k4⟩ := M2
                  rw [hq2] at hc2
                  simp only [Bool.and_eq_true, Bool.or_eq_true, decide_eq_true_eq] at hc2
                  obtain ⟨-, ⟨⟨⟨hw, hw1⟩, hdep⟩, hnp, hbL⟩, ha115⟩ := hc2
                  have hmok := a_moks _ (a_mtl_ok hq2 ha115)
                  have hwc := a_cws _ (a_mtl_ok hq2 ha115)
                  simp only [a_mok, Bool.and_eq_true, decide_eq_true_eq] at hmok
                  obtain ⟨⟨⟨hwi, hny⟩, hpl⟩, hL9⟩ := hmok
                  have hMet := a_met (D := D) (g := g) (base := base) (l := l) ih hr1 hq2 hpl (by rw [haslen]; exact hbL) hvas
                  have hG : GoodIn wsL_law (Cond.code y cc maxL ret :: wsL_law) := fun w h9 => (List.mem_cons.mp h9).elim (fun q => by rw [q]; exact a_good _ hwc) (fun q => a_good w q)
                  have hroom : (a_RM dep).frames + 1 ≤ R.frames ∧ 8 + (maxL + 11) + (a_RM dep).locals ≤ R.locals := ⟨by show dep + 1 ≤ _; omega, by show 8 + (maxL + 11) + 40 * dep ≤ _; omega⟩
                  have hstk : (F0 mI pc ls' (st.map (a_cv g.2.2.2))).stack = (as.map (a_cv g.2.2.2)).reverse ++ t.map (a_cv g.2.2.2) := by show st.map _ = _; rw [hsplit, List.map_append, List.map_reverse]
                  rcases hw with hw | hw
                  · exact va_runS (As := as.map (a_cv g.2.2.2)) (rest := t.map (a_cv g.2.2.2)) ⟨hexec, hb, hml, hown, hts⟩ hMet
                      ⟨callB_of (ws' := wsL_law) b hts hG rfl rfl rfl (hts _ (a_wsp hwi)) (hts _ (a_wsp hw)) ⟨hny.1, hny.2, hnp⟩ hroom, hts _ (a_wsp hw1)⟩
                      ⟨a_blind, hPc⟩ rfl (by rw [List.length_map]; exact haslen) hl.1 hstk (lv_room (by rw [a_cat_len]; exact htlen)) hdg ⟨hR.2.2.1, hR.2.2.2⟩
                  · exact va_runSN (As := as.map (a_cv g.2.2.2)) (rest := t.map (a_cv g.2.2.2)) ⟨hexec, hb, hml, hown, hts⟩ hMet
                      ⟨va_cnB (ws' := wsL_law) b hts hG rfl rfl rfl (hSt.2.2.2 _ (a_nwp hw)) (hts _ (a_wsp hwi)) ⟨hny.1, hny.2, hnp⟩ hroom, hts _ (a_wsp hw1), trivial⟩
                      ⟨a_blind, hPc⟩ rfl (by rw [List.length_map]; exact haslen) hl.1 hstk (lv_room (by rw [a_cat_len]; exact htlen)) hdg ⟨hR.2.2.1, hR.2.2.2⟩
              | _ => exact absurd hcl (fun q => by cases (show (none : Option (List aV × List aV)) = some _ from q))
            obtain ⟨hrunM, hvt⟩ := key
            have hgo : ∀ (H1 : Heap) (locs1 : List Loc) (st1 : List aV), st1 = r1.toList ++ t → (∀ v ∈ st1, a_vv v) → a_Dyn base D g m1 H1 → va_S (a_A base) s.heap H1 locs1 → W p l e R s mI args below meth cd H1 locs1 cells slots Q (F0 mI (pc + 3) ls' (st1.map (a_cv g.2.2.2))) := by
              intro H1 locs1 st1 hst1 hv1 hD1 hS1
              subst hst1
              exact ih q (pc + 3) ls (r1.toList ++ t) m1 r m' h p e R s mI args below meth cd cells slots Q M' hM hexec hb hml hown hts hR (a_Sta_m hm1 hSt) H1 locs1 hD1 hS1 ls' hl hv1 (fun H2 locs2 ls2 pc2 ins2 st2 hd hr hD2 hS2 hm2 => hret H2 locs2 ls2 pc2 ins2 st2 hd hr hD2 hS2 (fun c hc => (hm2 c hc).trans (hm1 c hc)))
            rcases a_run_int n hr1 with rfl | ⟨v, rfl⟩
            · exact va_callv (S := Unit) (a := (as.map (a_cv g.2.2.2)).toArray) (post := fun _ => True) (B := fun _ t => a_Pre base D g m1 t) hrunM hS (fun q _ h9 => h9) (fun q h9 => h9) (fun u t2 H1 locs1 ht hvm hw hB hz hk hS1 => hgo H1 locs1 t rfl hvt (ht ▸ hB.1) hS1)
            · refine va_calli (S := Unit) (a := (as.map (a_cv g.2.2.2)).toArray) (post := fun x _ => x = v) (B := fun _ t => a_Pre base D g m1 t) hrunM hS (fun q _ h9 => h9) (fun q h9 => h9) (fun x u t2 H1 locs1 ht hvm hw hB hz hk hS1 => ?_)
              subst hw
              exact hgo H1 locs1 (.inl x :: t) rfl (a_vcons (v := .inl x) trivial hvt) (ht ▸ hB.1) hS1
