/-! the abstract machine's step, sound against the machine -/
theorem a_in_ln {m : aM} {c : Nat} {i : Int32} (hc : c ≠ 46) (h : a_in i (a_ln m c) = true) : vp_in i (a_kd c).2 := by
  have := a_in_vp h
  rwa [a_ln, if_neg hc] at this
theorem a_fv_up (ad : Nat → Nat → Nat) (m : aM) (c b k : Nat) (x : Int32) (n : Nat) (hk : a_fr c b k = none) : ((List.range n).map (a_fv ad m c b)).set k (.int x) = (List.range n).map (a_fv ad (a_up m c b k x) c b) := by
  apply List.ext_getElem?
  intro j
  by_cases hj : j = k
  · subst hj
    by_cases hn : j < n
    · rw [List.getElem?_set_self (by simpa using hn), List.getElem?_map, List.getElem?_range hn]
      show some _ = some _
      rw [a_fv, hk]
      simp [a_up]
    · rw [List.getElem?_eq_none (by simp; omega), List.getElem?_eq_none (by simp; omega)]
  · rw [List.getElem?_set_ne (Ne.symm hj), List.getElem?_map, List.getElem?_map]
    by_cases hn : j < n
    · rw [List.getElem?_range hn]
      show some _ = some _
      congr 1
      unfold a_fv
      split
      · rfl
      · simp [a_up, hj]
    · rw [List.getElem?_eq_none (by simp; omega)]
      rfl
theorem a_up_off (m : aM) (c b k : Nat) (x : Int32) (c' b' : Nat) (h : c' ≠ c ∨ b' ≠ b) : a_up m c b k x c' b' = m c' b' := by
  funext j
  unfold a_up
  rw [if_neg]
  rintro ⟨h1, h2, -⟩
  rcases h with h | h
  · exact h h1
  · exact h h2
theorem a_up_c (m : aM) (c b k : Nat) (x : Int32) (c' : Nat) (h : c' ≠ c) : a_up m c b k x c' = m c' := by
  funext b'
  exact a_up_off m c b k x c' b' (Or.inl h)
theorem a_up_row (m : aM) (c b k : Nat) (x : Int32) : a_up m c b k x c b = upd (m c b) k x := by
  funext j
  simp [a_up, upd]
theorem a_wmin1 : Cond.static Lib.Math.min.name ∈ wsL_law := List.mem_of_getElem? (i := 139) (by decide +kernel)
theorem a_wmin2 : Cond.initialized "java/lang/Math" ∈ wsL_law := List.mem_of_getElem? (i := 140) (by decide +kernel)
theorem a_wmin3 : Cond.code Lib.Math.min.name Lib.Math.min.code 2 (some .int) ∈ wsL_law := List.mem_of_getElem? (i := 141) (by decide +kernel)
theorem a_wcpy1 : Cond.native arraycopyName ∈ wsL_law := List.mem_of_getElem? (i := 143) (by decide +kernel)
theorem a_wcpy2 : Cond.static arraycopyName ∈ wsL_law := List.mem_of_getElem? (i := 144) (by decide +kernel)
theorem a_wcpy3 : Cond.initialized "java/lang/System" ∈ wsL_law := List.mem_of_getElem? (i := 145) (by decide +kernel)
section SND
variable {p : Program} {l : Launch} {e : Env} {R : Room} {s : State} {mI : MethodId} {args : Array Value} {below : List Frame} {meth : Method} {cd : Code} {cells slots : Nat} {Q : State → Prop} {nL base : Nat} {D : va_G} {g : aG} {M : aMt}
set_option maxHeartbeats 8000000 in
theorem a_snd_step (hexec : p.tables.exec = Jvm.exec) (hb : cd.code = M.2.1) (hml : cd.maxLocals = nL) (hown : s.vm.findClass M.1.cls = some mI.cls) (hts : ∀ w ∈ wsL_law, w.before args s = true)
    (hR : M.2.2.2.2.1 ≤ R.frames ∧ 40 * M.2.2.2.2.1 ≤ R.locals ∧ cells ≤ R.cells ∧ slots ≤ R.slots) {m : aM} (hSt : a_Sta base D g m s) {H : Heap} {locs : List Loc} (hDy : a_Dyn base D g m H) (hS : va_S (a_A base) s.heap H locs)
    {ls' : Array Slot} {ls : aL} {st : List aV} (hl : a_LS g ls ls' nL) (hv : ∀ v ∈ st, a_vv v) {pc a b w : Nat} {ins : Instr} (hc : a_chk M pc (ins, a, b, w) = true) {pc1 : Nat} {ls1 : aL} {st1 : List aV} {m1 : aM} (h : a_step ins a b pc ls st m = some (pc1, ls1, st1, m1))
    (k : ∀ (H1 : Heap) (locs1 : List Loc) (ls1' : Array Slot), a_Dyn base D g m1 H1 → va_S (a_A base) s.heap H1 locs1 → a_LS g ls1 ls1' nL → (∀ v ∈ st1, a_vv v) → (∀ c, 41 ≤ c → m1 c = m c) → W p l e R s mI args below meth cd H1 locs1 cells slots Q (F0 mI pc1 ls1' (st1.map (a_cv g.2.2.2)))) :
    W p l e R s mI args below meth cd H locs cells slots Q (F0 mI pc ls' (st.map (a_cv g.2.2.2))) := by
  unfold a_chk at hc
  rw [Bool.and_eq_true] at hc
  obtain ⟨hdg, hc2⟩ := hc
  have hdg := of_decide_eq_true hdg
  cases ins with
  | aload_n kk =>
    obtain ⟨c1, d1, hk, h⟩ := a_lr_i h
    cases h
    exact lv_aload_n hexec hb hdg rfl (hl.2.2.2 _ _ hk).1 (k H locs ls' hDy hS hl (a_vcons (hl.2.2.2 _ _ hk).2 hv) (fun _ _ => rfl))
  | aload kk =>
    obtain ⟨c1, d1, hk, h⟩ := a_lr_i h
    cases h
    exact lv_aload hexec hb hdg (hl.2.2.2 _ _ hk).1 (k H locs ls' hDy hS hl (a_vcons (hl.2.2.2 _ _ hk).2 hv) (fun _ _ => rfl))
  | iload_n kk =>
    obtain ⟨x, hk, h⟩ := a_l1_i h
    cases h
    exact lv_iload_n hexec hb hdg rfl (hl.2.2.2 _ _ hk).1 (k H locs ls' hDy hS hl (a_vcons (v := .inl x) trivial hv) (fun _ _ => rfl))
  | iload kk =>
    obtain ⟨x, hk, h⟩ := a_l1_i h
    cases h
    exact lv_iload hexec hb hdg (hl.2.2.2 _ _ hk).1 (k H locs ls' hDy hS hl (a_vcons (v := .inl x) trivial hv) (fun _ _ => rfl))
  | istore_n kk =>
    obtain ⟨x, t, rfl, h⟩ := a_p1_i h
    obtain ⟨hlt, h⟩ := a_if_i h
    cases h
    exact lv_istore_n hexec hb hdg rfl (a_lv_has hl) (Nat.lt_of_lt_of_le hlt hl.2.2.1) rfl (fun ls2 h2 => k H locs ls2 hDy hS (a_LS_store (v := .inl x) hl trivial h2) (a_vtl hv) (fun _ _ => rfl))
  | istore kk =>
    obtain ⟨x, t, rfl, h⟩ := a_p1_i h
    obtain ⟨hlt, h⟩ := a_if_i h
    cases h
    exact lv_istore hexec hb hdg (a_lv_has hl) (Nat.lt_of_lt_of_le hlt hl.2.2.1) rfl (fun ls2 h2 => k H locs ls2 hDy hS (a_LS_store (v := .inl x) hl trivial h2) (a_vtl hv) (fun _ _ => rfl))
  | astore_n kk =>
    obtain ⟨c1, d1, t, rfl, h⟩ := a_pr_i h
    obtain ⟨hlt, h⟩ := a_if_i h
    cases h
    exact lv_astore_n hexec hb hdg rfl (a_lv_has hl) (Nat.lt_of_lt_of_le hlt hl.2.2.1) rfl (fun ls2 h2 => k H locs ls2 hDy hS (a_LS_store (v := .inr (c1, d1)) hl (a_vhd hv) h2) (a_vtl hv) (fun _ _ => rfl))
  | iinc kk n =>
    obtain ⟨x, hk, h⟩ := a_l1_i h
    obtain ⟨hlt, h⟩ := a_if_i h
    cases h
    obtain ⟨j, hj⟩ := List.getElem?_of_mem (a_lv_mem (ad := g.2.2.2) hk)
    exact lv_iinc (k := j) hexec hb hdg (a_lv_has hl) hj rfl (Nat.lt_of_lt_of_le hlt hl.2.2.1) rfl (fun ls2 h2 => k H locs ls2 hDy hS (a_LS_store (v := .inl (x + Int32.ofInt n)) hl trivial h2) hv (fun _ _ => rfl))
  | iconst n =>
    cases h
    exact lv_iconst hexec hb hdg rfl (k H locs ls' hDy hS hl (a_vcons (v := .inl _) trivial hv) (fun _ _ => rfl))
  | bipush n =>
    cases h
    exact lv_bipush hexec hb hdg rfl (k H locs ls' hDy hS hl (a_vcons (v := .inl _) trivial hv) (fun _ _ => rfl))
  | sipush n =>
    cases h
    exact lv_sipush hexec hb hdg rfl (k H locs ls' hDy hS hl (a_vcons (v := .inl _) trivial hv) (fun _ _ => rfl))
  | iadd =>
    obtain ⟨x, y, t, rfl, h⟩ := a_p2_i h
    cases h
    exact lv_iadd hexec hb hdg (k H locs ls' hDy hS hl (a_vcons (v := .inl _) trivial (a_vtl (a_vtl hv))) (fun _ _ => rfl))
  | isub =>
    obtain ⟨x, y, t, rfl, h⟩ := a_p2_i h
    cases h
    exact lv_isub hexec hb hdg (k H locs ls' hDy hS hl (a_vcons (v := .inl _) trivial (a_vtl (a_vtl hv))) (fun _ _ => rfl))
  | imul =>
    obtain ⟨x, y, t, rfl, h⟩ := a_p2_i h
    cases h
    exact lv_imul hexec hb hdg (k H locs ls' hDy hS hl (a_vcons (v := .inl _) trivial (a_vtl (a_vtl hv))) (fun _ _ => rfl))
  | iand =>
    obtain ⟨x, y, t, rfl, h⟩ := a_p2_i h
    cases h
    exact lv_iand hexec hb hdg (k H locs ls' hDy hS hl (a_vcons (v := .inl _) trivial (a_vtl (a_vtl hv))) (fun _ _ => rfl))
  | ixor =>
    obtain ⟨x, y, t, rfl, h⟩ := a_p2_i h
    cases h
    exact lv_ixor hexec hb hdg (k H locs ls' hDy hS hl (a_vcons (v := .inl _) trivial (a_vtl (a_vtl hv))) (fun _ _ => rfl))
  | ishr =>
    obtain ⟨x, y, t, rfl, h⟩ := a_p2_i h
    cases h
    exact lv_ishr hexec hb hdg (k H locs ls' hDy hS hl (a_vcons (v := .inl _) trivial (a_vtl (a_vtl hv))) (fun _ _ => rfl))
  | ldc idx =>
    cases h
    exact lv_ldc hexec hb hown (hts _ (a_wsp hc2)) hdg (k H locs ls' hDy hS hl (a_vcons (v := .inl _) trivial hv) (fun _ _ => rfl))
  | idiv =>
    obtain ⟨x, y, t, rfl, h⟩ := a_p2_i h
    obtain ⟨hy, h⟩ := a_if_i h
    cases h
    exact lv_idiv hexec hb hdg hy (k H locs ls' hDy hS hl (a_vcons (v := .inl _) trivial (a_vtl (a_vtl hv))) (fun _ _ => rfl))
  | irem =>
    obtain ⟨x, y, t, rfl, h⟩ := a_p2_i h
    obtain ⟨hy, h⟩ := a_if_i h
    cases h
    exact lv_irem hexec hb hdg hy (k H locs ls' hDy hS hl (a_vcons (v := .inl _) trivial (a_vtl (a_vtl hv))) (fun _ _ => rfl))
  | dup =>
    obtain ⟨v, t, rfl, h⟩ := a_p0_i h
    cases h
    exact lv_dup hexec hb hdg (a_cv_cat _ v) (k H locs ls' hDy hS hl (a_vcons (a_vhd hv) hv) (fun _ _ => rfl))
  | dup2 =>
    obtain ⟨v, u, t, rfl, h⟩ := a_pv_i h
    cases h
    exact lv_dup2_11 hexec hb hdg (a_cv_cat _ v) (a_cv_cat _ u) (k H locs ls' hDy hS hl (a_vcons (a_vhd hv) (a_vcons (a_vhd (a_vtl hv)) hv)) (fun _ _ => rfl))
  | pop =>
    obtain ⟨v, t, rfl, h⟩ := a_p0_i h
    cases h
    exact lv_pop hexec hb hdg (a_cv_cat _ v) (k H locs ls' hDy hS hl (a_vtl hv) (fun _ _ => rfl))
  | goto o =>
    cases h
    exact lv_goto hexec hb hdg (of_decide_eq_true hc2) (k H locs ls' hDy hS hl hv (fun _ _ => rfl))
  | ifCond cnd o =>
    obtain ⟨x, t, rfl, h⟩ := a_p1_i h
    cases h
    have ht := of_decide_eq_true hc2
    have kk := k H locs ls' hDy hS hl (a_vtl hv) (fun _ _ => rfl)
    cases cnd with
    | eq => exact lv_if_eq hexec hb hdg ht (fun z => by rwa [if_pos (by exact decide_eq_true z)] at kk) (fun z => by rwa [if_neg (by simpa [a_cc] using z)] at kk)
    | ne => exact lv_if_ne hexec hb hdg ht (fun z => by rwa [if_pos (by exact decide_eq_true z)] at kk) (fun z => by rwa [if_neg (by simpa [a_cc] using z)] at kk)
    | lt => exact lv_if_lt hexec hb hdg ht (fun z => by rwa [if_pos (by exact decide_eq_true z)] at kk) (fun z => by rwa [if_neg (by simpa [a_cc] using z)] at kk)
    | ge => exact lv_if_ge hexec hb hdg ht (fun z => by rwa [if_pos (by exact decide_eq_true z)] at kk) (fun z => by rwa [if_neg (by simpa [a_cc] using z)] at kk)
    | gt => exact lv_if_gt hexec hb hdg ht (fun z => by rwa [if_pos (by exact decide_eq_true z)] at kk) (fun z => by rwa [if_neg (by simpa [a_cc] using z)] at kk)
    | le => exact lv_if_le hexec hb hdg ht (fun z => by rwa [if_pos (by exact decide_eq_true z)] at kk) (fun z => by rwa [if_neg (by simpa [a_cc] using z)] at kk)
  | if_icmp cnd o =>
    obtain ⟨x, y, t, rfl, h⟩ := a_p2_i h
    cases h
    have ht := of_decide_eq_true hc2
    have kk := k H locs ls' hDy hS hl (a_vtl (a_vtl hv)) (fun _ _ => rfl)
    cases cnd with
    | eq => exact lv_icmp_eq hexec hb hdg ht (fun z => by rwa [if_pos (by exact decide_eq_true z)] at kk) (fun z => by rwa [if_neg (by simpa [a_cc] using z)] at kk)
    | ne => exact lv_icmp_ne hexec hb hdg ht (fun z => by rwa [if_pos (by exact decide_eq_true z)] at kk) (fun z => by rwa [if_neg (by simpa [a_cc] using z)] at kk)
    | lt => exact lv_icmp_lt hexec hb hdg ht (fun z => by rwa [if_pos (by exact decide_eq_true z)] at kk) (fun z => by rwa [if_neg (by simpa [a_cc] using z)] at kk)
    | ge => exact lv_icmp_ge hexec hb hdg ht (fun z => by rwa [if_pos (by exact decide_eq_true z)] at kk) (fun z => by rwa [if_neg (by simpa [a_cc] using z)] at kk)
    | gt => exact lv_icmp_gt hexec hb hdg ht (fun z => by rwa [if_pos (by exact decide_eq_true z)] at kk) (fun z => by rwa [if_neg (by simpa [a_cc] using z)] at kk)
    | le => exact lv_icmp_le hexec hb hdg ht (fun z => by rwa [if_pos (by exact decide_eq_true z)] at kk) (fun z => by rwa [if_neg (by simpa [a_cc] using z)] at kk)
  | tableswitch dflt lo hi offs =>
    obtain ⟨x, t, rfl, h⟩ := a_p1_i h
    obtain ⟨⟨⟨z1, z2⟩, z3⟩, h⟩ := a_if_i h
    cases h
    have kk := k H locs ls' hDy hS hl (a_vtl hv) (fun _ _ => rfl)
    by_cases ho : x.toInt < lo ∨ hi < x.toInt
    · rw [a_ts, if_pos ho] at kk
      exact lv_tableOut hexec hb hdg ho (by unfold a_tg; omega) kk
    · rw [a_ts, if_neg ho] at kk
      have hsz : (x.toInt - lo).toNat < offs.size := by
        rcases z3 with q | q | q
        · exact absurd (Or.inl q) ho
        · exact absurd (Or.inr q) ho
        · exact q
      have hget : offs[(x.toInt - lo).toNat]? = some offs[(x.toInt - lo).toNat] := Array.getElem?_eq_getElem hsz
      rw [hget] at kk
      dsimp only at kk
      have hnn := z2 offs[(x.toInt - lo).toNat] (by simp)
      exact lv_tableIn hexec hb hdg (fun q => ho (Or.inl q)) (fun q => ho (Or.inr q)) hget (by unfold a_tg; omega) kk
  | lookupswitch dflt ps =>
    obtain ⟨x, t, rfl, h⟩ := a_p1_i h
    obtain ⟨z1, h⟩ := a_if_i h
    cases h
    exact lv_lookup hexec hb hdg hc2 rfl (by unfold a_lk a_tg; omega) (k H locs ls' hDy hS hl (a_vtl hv) (fun _ _ => rfl))
  | getfield idx =>
    obtain ⟨c1, d1, t, rfl, h⟩ := a_pr_i h
    obtain ⟨hkd, h⟩ := a_if_i h
    have hvr : a_vr c1 d1 := a_vhd hv
    have hc41 : c1 < 40 := a_kd_3 (by rw [hkd]; exact Nat.zero_le _)
    cases hq : vwCl[a]? with
    | none => simp only [hq] at hc2; cases hc2
    | some q =>
      obtain ⟨C, T, N⟩ := q
      simp only [hq, Bool.and_eq_true, decide_eq_true_eq] at hc2
      obtain ⟨hbN, hw⟩ := hc2
      have hws := a_ws_get g m hvr hc41
      have hcell : a_cell g m c1 d1 = .inr (a, (List.range (a_nf c1)).map (a_fv g.2.2.2 m c1 d1)) := by simp only [a_cell, hkd]
      rw [hcell] at hws
      have hfs : ((List.range (a_nf c1)).map (a_fv g.2.2.2 m c1 d1))[b]? = some (a_fv g.2.2.2 m c1 d1 b) := by
        rw [List.getElem?_map, List.getElem?_range (by rw [a_kd_nf hkd hq]; exact hbN)]
        rfl
      refine va_get (D := D) hexec hb hts (a_cls hq).1 hown hSt.1 hDy.1 (a_ri c1 d1) hws hq b hbN (hts _ (a_wsp hw)) (fun _ h9 => h9) hfs hdg ?_
      cases hfr : a_fr c1 d1 b with
      | none =>
        rw [hfr] at h
        cases h
        rw [a_fv, hfr]
        exact k H locs ls' hDy hS hl (a_vcons (v := .inl _) trivial (a_vtl hv)) (fun _ _ => rfl)
      | some r =>
        obtain ⟨r1, r2⟩ := r
        rw [hfr] at h
        cases h
        rw [a_fv, hfr]
        exact k H locs ls' hDy hS hl (a_vcons (v := .inr (r1, r2)) (a_ft_ok hvr hc41 hfr) (a_vtl hv)) (fun _ _ => rfl)
  | putfield idx =>
    obtain ⟨x, c1, d1, t, rfl, h⟩ := a_p1r_i h
    obtain ⟨⟨⟨hkd, hfr⟩, hbool⟩, h⟩ := a_if_i h
    cases h
    have hvr : a_vr c1 d1 := a_vhd (a_vtl hv)
    have hc41 : c1 < 40 := a_kd_3 (by rw [hkd]; exact Nat.zero_le _)
    cases hq : vwCl[a]? with
    | none => simp only [hq] at hc2; cases hc2
    | some q =>
      obtain ⟨C, T, N⟩ := q
      simp only [hq, Bool.and_eq_true, decide_eq_true_eq, Bool.not_eq_true'] at hc2
      obtain ⟨⟨⟨hbN, hw⟩, hfin⟩, hty⟩ := hc2
      have hws := a_ws_get g m hvr hc41
      have hcell : a_cell g m c1 d1 = .inr (a, (List.range (a_nf c1)).map (a_fv g.2.2.2 m c1 d1)) := by simp only [a_cell, hkd]
      have hcell' : a_cell g (a_up m c1 d1 b x) c1 d1 = .inr (a, (List.range (a_nf c1)).map (a_fv g.2.2.2 (a_up m c1 d1 b x) c1 d1)) := by simp only [a_cell, hkd]
      rw [hcell] at hws
      obtain ⟨hin, hnm, ty0, hty0⟩ := a_cls hq
      have hnf := a_kd_nf hkd hq
      have hset : (a_ws g m).set (a_ri c1 d1) (g.2.2.2 c1 d1, .inr (a, ((List.range (a_nf c1)).map (a_fv g.2.2.2 m c1 d1)).set b (.int x))) = a_ws g (a_up m c1 d1 b x) := by
        refine a_ws_set g hvr hc41 (fun c' b' hh => a_up_off m c1 d1 b x c' b' hh) ?_
        rw [hcell', a_fv_up _ _ _ _ _ _ _ hfr]
      have hnar : narrow (if a_bf a b = true then FieldType.boolean else FieldType.int) (.int x) = .int x ∧ fits (if a_bf a b = true then FieldType.boolean else FieldType.int) (.int x) = true := by
        by_cases hbf : a_bf a b = true
        · rw [if_pos hbf]
          rcases hbool hbf with rfl | rfl
          · exact ⟨by decide, by decide⟩
          · exact ⟨by decide, by decide⟩
        · rw [if_neg hbf]
          exact ⟨rfl, rfl⟩
      refine va_put (D := D) (v := .int x) hexec hb hts hin ty0 hty0 hnm hown hSt.1 hDy.1 hDy.2 hS (a_ri c1 d1) hws hq b hbN (hts _ (a_wsp hw)) (fun _ h9 => h9) hfin hty hnar.1 hnar.2 (by rw [List.length_map, List.length_range, hnf]; exact hbN) hdg (fun H1 locs1 hP1 hD1 hS1 => ?_)
      rw [hset] at hP1 hD1
      exact k H1 locs1 ls' ⟨hP1, hD1⟩ hS1 hl (a_vtl (a_vtl hv)) (fun c' hc' => a_up_c _ _ _ _ _ _ (by omega))
  | getstatic idx =>
    cases h
    simp only [Bool.and_eq_true, Bool.or_eq_true, decide_eq_true_eq] at hc2
    obtain ⟨⟨h41, h46⟩, hw⟩ := hc2
    have hkk := k H locs ls' hDy hS hl (a_vcons (v := .inr (a, 0)) (Or.inr ⟨by omega, by omega, rfl⟩) hv) (fun _ _ => rfl)
    rcases hw with hw | hw
    · exact va_gets hexec hb (hSt.2.1 a h41 h46).1 hS hown (hts _ (a_wsp hw)) (fun _ h9 => h9) hdg hkk
    · exact va_getsN hexec hb (hSt.2.1 a h41 h46).1 hS hown (va_Nw.use rfl (hSt.2.2.2 _ (a_nwp hw))) (fun _ h9 => h9) hdg hkk
  | iaload =>
    obtain ⟨i, c1, d1, t, rfl, h⟩ := a_p1r_i h
    obtain ⟨⟨htag, hin⟩, h⟩ := a_if_i h
    cases h
    have hvr : a_vr c1 d1 := a_vhd (a_vtl hv)
    have hkk := k H locs ls' hDy hS hl (a_vcons (v := .inl (m c1 d1 i.toNatClampNeg)) trivial (a_vtl (a_vtl hv))) (fun _ _ => rfl)
    rcases htag with ht | ht | ht
    · have hc41 : c1 < 40 := a_kd_3 (by omega)
      have hws := a_ws_get g m hvr hc41
      have hcell : a_cell g m c1 d1 = .inl (g.1, (a_kd c1).2, .inl (m c1 d1)) := by simp only [a_cell, ht]
      rw [hcell] at hws
      exact va_iald (D := D) hexec hb hSt.1 hDy.1 (a_ri c1 d1) 0 hws rfl (a_in_ln (by omega) hin) hdg hkk
    · obtain ⟨h41, h46⟩ := a_kd_4 ht
      have hd : d1 = 0 := by rcases hvr with ⟨q, -⟩ | ⟨-, -, q⟩ <;> omega
      subst hd
      exact va_ti hexec hb (hSt.2.1 c1 h41 h46).2 hS (a_in_ln (by omega) hin) rfl hdg hkk
    · have hc46 := a_kd_5 ht
      subst hc46
      have hd : d1 = 0 := by rcases hvr with ⟨q, -⟩ | ⟨-, -, q⟩ <;> omega
      subst hd
      obtain ⟨x1, x2, x3⟩ := hSt.2.2.1
      exact va_sld hexec hb x1 (Nat.lt_of_lt_of_le x2 x3) (Nat.not_le.mpr x2) hS (a_in_vp hin) hdg hkk
  | baload =>
    obtain ⟨i, c1, d1, t, rfl, h⟩ := a_p1r_i h
    obtain ⟨⟨ht, hin⟩, h⟩ := a_if_i h
    cases h
    have hvr : a_vr c1 d1 := a_vhd (a_vtl hv)
    have hkk := k H locs ls' hDy hS hl (a_vcons (v := .inl (m c1 d1 i.toNatClampNeg)) trivial (a_vtl (a_vtl hv))) (fun _ _ => rfl)
    have hc41 : c1 < 40 := a_kd_3 (by omega)
    have hws := a_ws_get g m hvr hc41
    have hcell : a_cell g m c1 d1 = .inl (g.2.1, (a_kd c1).2, .inl (m c1 d1)) := by simp only [a_cell, ht]
    rw [hcell] at hws
    exact va_zald (D := D) hexec hb hSt.1 hDy.1 (a_ri c1 d1) 1 hws rfl (a_in_ln (by omega) hin) hdg hkk
  | aaload =>
    obtain ⟨i, c1, d1, t, rfl, h⟩ := a_p1r_i h
    obtain ⟨⟨ht, hin⟩, h⟩ := a_if_i h
    cases h
    have hvr : a_vr c1 d1 := a_vhd (a_vtl hv)
    have hc41 : c1 < 40 := a_kd_3 (by omega)
    have hvp := a_in_ln (by omega) hin
    have hlt : i.toNatClampNeg < (a_kd c1).2 := Nat.not_le.mp fun q => hvp (Or.inr q)
    have hel := (show ∀ c, c < 47 → (a_kd c).1 = 3 → ∀ j, j < 6 → j < (a_kd c).2 → a_el c j < 10 by decide +kernel) c1 (by omega) ht i.toNatClampNeg (by
      have := (show ∀ c, c < 47 → (a_kd c).1 = 3 → (a_kd c).2 ≤ 6 by decide +kernel) c1 (by omega) ht
      omega) hlt
    have hkk := k H locs ls' hDy hS hl (a_vcons (v := .inr (0, a_el c1 i.toNatClampNeg)) (Or.inl ⟨by omega, hel⟩) (a_vtl (a_vtl hv))) (fun _ _ => rfl)
    have hws := a_ws_get g m hvr hc41
    have hcell : a_cell g m c1 d1 = .inl (g.2.2.1, (a_kd c1).2, .inr (.inr (.inr (.inr (fun j => some (g.2.2.2 0 (a_el c1 j))))))) := by simp only [a_cell, ht]
    rw [hcell] at hws
    exact va_aldq (D := D) hexec hb hSt.1 hDy.1 (a_ri c1 d1) 2 hws rfl hvp hdg hkk
  | iastore =>
    obtain ⟨x, i, c1, d1, t, rfl, h⟩ := a_p2r_i h
    obtain ⟨⟨ht, hin⟩, h⟩ := a_if_i h
    cases h
    have hvr : a_vr c1 d1 := a_vhd (a_vtl (a_vtl hv))
    have hc41 : c1 < 40 := a_kd_3 (by omega)
    have hws := a_ws_get g m hvr hc41
    have hcell : a_cell g m c1 d1 = .inl (g.1, (a_kd c1).2, .inl (m c1 d1)) := by simp only [a_cell, ht]
    have hset : (a_ws g m).set (a_ri c1 d1) (g.2.2.2 c1 d1, .inl (g.1, (a_kd c1).2, .inl (upd (m c1 d1) i.toNatClampNeg x))) = a_ws g (a_up m c1 d1 i.toNatClampNeg x) := by
      refine a_ws_set g hvr hc41 (fun c' b' hh => a_up_off m c1 d1 _ x c' b' hh) ?_
      simp only [a_cell, ht, a_up_row]
    rw [hcell] at hws
    refine va_iast (D := D) hexec hb hSt.1 hDy.1 hDy.2 hS (a_ri c1 d1) 0 hws rfl (a_in_ln (by omega) hin) hdg (fun H1 locs1 hP1 hD1 hS1 => ?_)
    rw [hset] at hP1 hD1
    exact k H1 locs1 ls' ⟨hP1, hD1⟩ hS1 hl (a_vtl (a_vtl (a_vtl hv))) (fun c' hc' => a_up_c _ _ _ _ _ _ (by omega))
  | bastore =>
    obtain ⟨x, i, c1, d1, t, rfl, h⟩ := a_p2r_i h
    obtain ⟨⟨⟨ht, hin⟩, hx⟩, h⟩ := a_if_i h
    cases h
    have hvr : a_vr c1 d1 := a_vhd (a_vtl (a_vtl hv))
    have hc41 : c1 < 40 := a_kd_3 (by omega)
    have hws := a_ws_get g m hvr hc41
    have hcell : a_cell g m c1 d1 = .inl (g.2.1, (a_kd c1).2, .inl (m c1 d1)) := by simp only [a_cell, ht]
    have hnx : vp_nar .boolean x = x := by rcases hx with rfl | rfl <;> decide
    have hset : (a_ws g m).set (a_ri c1 d1) (g.2.2.2 c1 d1, .inl (g.2.1, (a_kd c1).2, .inl (upd (m c1 d1) i.toNatClampNeg (vp_nar .boolean x)))) = a_ws g (a_up m c1 d1 i.toNatClampNeg x) := by
      refine a_ws_set g hvr hc41 (fun c' b' hh => a_up_off m c1 d1 _ x c' b' hh) ?_
      simp only [a_cell, ht, a_up_row, hnx]
    rw [hcell] at hws
    refine va_zast (D := D) hexec hb hSt.1 hDy.1 hDy.2 hS (a_ri c1 d1) 1 hws rfl (a_in_ln (by omega) hin) hdg (fun H1 locs1 hP1 hD1 hS1 => ?_)
    rw [hset] at hP1 hD1
    exact k H1 locs1 ls' ⟨hP1, hD1⟩ hS1 hl (a_vtl (a_vtl (a_vtl hv))) (fun c' hc' => a_up_c _ _ _ _ _ _ (by omega))
  | arraylength =>
    obtain ⟨c1, d1, t, rfl, h⟩ := a_pr_i h
    obtain ⟨ht, h⟩ := a_if_i h
    cases h
    have hvr : a_vr c1 d1 := a_vhd hv
    have hkk := k H locs ls' hDy hS hl (a_vcons (v := .inl (nI (a_ln m c1))) trivial (a_vtl hv)) (fun _ _ => rfl)
    rcases ht with ht | ht
    · have hc41 : c1 < 40 := a_kd_3 (by omega)
      have hws := a_ws_get g m hvr hc41
      have hcell : a_cell g m c1 d1 = .inl (g.1, (a_kd c1).2, .inl (m c1 d1)) := by simp only [a_cell, ht]
      rw [hcell] at hws
      rw [a_ln, if_neg (by omega)] at hkk
      exact va_alen (D := D) hexec hb hSt.1 hDy.1 (a_ri c1 d1) 0 hws rfl rfl hdg hkk
    · have hc46 := a_kd_5 ht
      subst hc46
      have hd : d1 = 0 := by rcases hvr with ⟨q, -⟩ | ⟨-, -, q⟩ <;> omega
      subst hd
      obtain ⟨x1, x2, x3⟩ := hSt.2.2.1
      exact va_slen hexec hb x1 (Nat.lt_of_lt_of_le x2 x3) (Nat.not_le.mpr x2) hS hdg hkk
  | invokestatic idx =>
    simp only [Bool.and_eq_true, decide_eq_true_eq] at hc2
    obtain ⟨hdep, hc2⟩ := hc2
    change (if a = 1000 then _ else _) = some _ at h
    by_cases ha : a = 1000
    · rw [if_pos ha] at h hc2
      obtain ⟨x, y, t, rfl, h⟩ := a_p2_i h
      obtain ⟨hlen, h⟩ := a_if_i h
      cases h
      have hcat : ((t.map (a_cv g.2.2.2)).map fun v => v.category).sum ≤ 8 := by
        have : ∀ t : List aV, ((t.map (a_cv g.2.2.2)).map fun v => v.category).sum = t.length := by
          intro t
          induction t with
          | nil => rfl
          | cons v t ih => rw [List.map_cons, List.map_cons, List.sum_cons, ih, a_cv_cat, List.length_cons]; omega
        rw [this]; exact hlen
      refine va_mmin hexec hb (hml.trans hl.1.symm) hown (hts _ (a_wsp hc2)) (hts _ a_wmin1) (hts _ a_wmin2) (hts _ a_wmin3) (by omega) (by omega) hR.2.2.1 hR.2.2.2 hdg ?_
      exact k H locs ls' hDy hS hl (a_vcons (v := .inl _) trivial (a_vtl (a_vtl hv))) (fun _ _ => rfl)
    · rw [if_neg ha] at h hc2
      by_cases ha1 : a = 1001
      · rw [if_pos ha1] at h hc2
        obtain ⟨n, dp, c1, b1, sp, c0, b0, rfl, h⟩ := a_pcp_i h
        obtain ⟨⟨⟨t0, t1⟩, ⟨g1, g2, g3⟩, g4, g5⟩, h⟩ := a_if_i h
        cases h
        have hv1 : a_vr c1 b1 := a_vhd (a_vtl (a_vtl hv))
        have hv0 : a_vr c0 b0 := a_vhd (a_vtl (a_vtl (a_vtl (a_vtl hv))))
        have hc1 : c1 < 40 := a_kd_3 (by omega)
        have hc0 : c0 < 40 := a_kd_3 (by omega)
        have hw1 := a_ws_get g m hv1 hc1
        have hw0 := a_ws_get g m hv0 hc0
        have hcell1 : a_cell g m c1 b1 = .inl (g.1, (a_kd c1).2, .inl (m c1 b1)) := by simp only [a_cell, t1]
        have hcell0 : a_cell g m c0 b0 = .inl (g.1, (a_kd c0).2, .inl (m c0 b0)) := by simp only [a_cell, t0]
        have hset : (a_ws g m).set (a_ri c1 b1) (g.2.2.2 c1 b1, .inl (g.1, (a_kd c1).2, .inl (va_cpy (m c0 b0) (m c1 b1) sp.toNatClampNeg dp.toNatClampNeg n.toNatClampNeg))) = a_ws g (fun c b j => if c = c1 ∧ b = b1 then va_cpy (m c0 b0) (m c1 b1) sp.toNatClampNeg dp.toNatClampNeg n.toNatClampNeg j else m c b j) := by
          refine a_ws_set g hv1 hc1 (fun c' b' hh => ?_) ?_
          · funext j
            show (if c' = c1 ∧ b' = b1 then _ else _) = _
            rw [if_neg (fun q => hh.elim (fun z => z q.1) (fun z => z q.2))]
          · simp only [a_cell, t1, and_self, if_true]
        rw [hcell1] at hw1
        rw [hcell0] at hw0
        refine va_copyi (D := D) (ty := .int) hexec hb (hml.trans hl.1.symm) hown (hts _ (a_wsp hc2)) (hts _ a_wcpy1) (hts _ a_wcpy2) (hts _ a_wcpy3) hSt.1 hDy.1 hDy.2 hS (a_ri c0 b0) (a_ri c1 b1) 0 0 hw0 hw1 rfl rfl rfl g1 g2 g3 g4 g5 (fun _ _ => rfl) (by omega) (by show 0 + (7 + 11) ≤ _; omega) hdg (fun H1 locs1 hP1 hD1 hS1 => ?_)
        rw [hset] at hP1 hD1
        refine k H1 locs1 ls' ⟨hP1, hD1⟩ hS1 hl (fun v h9 => absurd h9 List.not_mem_nil) (fun c' hc' => ?_)
        funext b' j
        show (if c' = c1 ∧ b' = b1 then _ else _) = _
        rw [if_neg (fun q => by omega)]
      · rw [if_neg ha1] at h
        cases h
  | _ => exact absurd h (fun q => by cases (show (none : Option aS) = some _ from q))
end SND
