/-! the law's look: all is so; by program (wip/p34/gen65.py) -/
section LIS
variable {m : aM} {s : aS0} {Q : Int32 → aM → Prop} {A B C D : Int32} {k : Nat}
def sN (f : Nat → Nat) : Nat → Nat
  | 0 => 0
  | n + 1 => sN f n + f n
theorem one_on {n : Nat} (hd : dvW s n) : (if decide ((s (104 + 10 * n + 3)) = nI 0) = true then 1 else 0) + (if decide ((s (104 + 10 * n + 3)) = nI 1) = true then 1 else 0) + (if decide ((s (104 + 10 * n + 3)) = nI 2) = true then 1 else 0) + (if decide ((s (104 + 10 * n + 3)) = nI 3) = true then 1 else 0) + (if decide ((s (104 + 10 * n + 3)) = nI 4) = true then 1 else 0) + (if decide ((s (104 + 10 * n + 3)) = nI 5) = true then 1 else 0) + (if decide ((s (104 + 10 * n + 3)) = nI 6) = true then 1 else 0) + (if decide ((s (104 + 10 * n + 3)) = nI 7) = true then 1 else 0) = (if mHas s n = true then 1 else 0) := by
  unfold mHas
  rcases dv3 hd with h | ⟨t, lt, h⟩
  · rw [h]; decide +kernel
  · rw [h]
    rcases (show t = 0 ∨ t = 1 ∨ t = 2 ∨ t = 3 ∨ t = 4 ∨ t = 5 ∨ t = 6 ∨ t = 7 by omega) with rfl | rfl | rfl | rfl | rfl | rfl | rfl | rfl <;> decide +kernel
theorem sum_on (hW : WF s) : ∀ n, n ≤ nD s → sN (fun c => cntN (fun k => decide ((s (104 + 10 * k + 3)) = nI c)) n) 8 = cntN (mHas s) n
  | 0, _ => rfl
  | n + 1, hn => by
    have ih := sum_on hW n (by omega)
    have h1 := one_on (WF_dv hW (show n < nD s by omega))
    simp only [sN, cntN] at ih ⊢
    omega
theorem M_114_826 (hC : CL m s) (hA : A = sumN (fun k => (s (8 + 5 * k + 4))) (nS s)) (hB : B = sumN (fun k => (s (104 + 10 * k + 7))) (nD s)) (hCc : C = sumN (fun k => (s (104 + 10 * k + 8))) (nD s)) (hD : D = sumN (fun k => (s (104 + 10 * k + 9))) (nD s)) (hQ : Q 1 (setS m s)) : H_114_826 A B C D 1 0 0 (setS m s) Q := by
  have hW := CL_W hC
  have hC' : CL (setS m s) s := CL_S hC
  obtain ⟨eD, lD⟩ := WF_D hW
  have lon : ∀ c, mOn3 s (nI c) ≤ 16 := fun c => Nat.le_trans (cntN_le _ _) lD
  refine dn0 (n := 8) (P := fun c => H_114_826 A B C D 1 (nI (sN (fun c => mOn3 s (nI c)) c)) (nI c) (setS m s) Q) ?_ ?_
  · refine T_114_826 (i_neg (by decide) (i_neg (by decide) (M_108 hW (i_pos ?_ ?_))))
    · have := sum_on hW (nD s) (Nat.le_refl _)
      have e : sN (fun c => mOn3 s (nI c)) 8 = mLs s := this
      rw [e]
    · have e : sN (fun c => mOn3 s (nI c)) 8 = mLs s := sum_on hW (nD s) (Nat.le_refl _)
      rw [e]
      refine LK85_0 hC' (i_pos rG0.symm (LK85_1 hC' (i_pos rG1.symm (LK85_2 hC' (i_pos rG2.symm (LK85_3 hC' (i_pos rG3.symm (LK85_4 hC' (i_pos hA.symm (LK85_5 hC' (i_pos rfl (LK85_6 hC' (M_107 hW (i_pos rfl (LK85_7 hC' (i_pos hB.symm (LK85_8 hC' (i_pos hCc.symm (LK85_9 hC' (i_pos hD.symm (LK85_10 hC' (i_pos rG4.symm (LK85_12 hC' (i_pos rfl (LK85_13 hC' (i_pos rG5.symm (LK85_14 hC' (i_pos rG6.symm (LK85_15 hC' (i_pos rG7.symm ?_))))))))))))))))))))))))))))))
      exact hQ
  · intro c hc ih
    refine T_114_826 (i_pos (nI_lt (b := 8) hc (by omega)) (i_neg (by decide) ?_))
    refine dn0 (n := nD s) (P := fun j => H_114_844 A B C D 1 (nI (sN (fun c => mOn3 s (nI c)) c)) (nI c) (nI (cntN (fun k => decide ((s (104 + 10 * k + 3)) = nI c)) j)) (nI j) (setS m s) Q) ?_ ?_
    · refine T_114_844 ?_
      rw [rG3, eD]
      refine i_ge (Nat.le_refl _) (by omega) (LK84 hC' hc (i_pos rfl ?_))
      rw [nI_add, nI_1]
      exact ih
    · intro j hj ih2
      have hj16 : j < 16 := by omega
      refine T_114_844 ?_
      rw [rG3, eD]
      refine i_lt hj (by omega) ⟨gD3 hj16, ?_⟩
      rw [rD3 hj16, nI_1, nI_1, nI_z0]
      unfold cntN at ih2
      by_cases h3 : (s (104 + 10 * j + 3)) = nI c
      · refine i_pos h3 ?_
        rwa [if_pos (by simp [h3])] at ih2
      · refine i_neg h3 ?_
        rwa [if_neg (by simp [h3]), Nat.add_zero] at ih2
theorem M_114_464 (hC : CL m s) (hI : IX s) (hk : k < nD s) (ih : H_114_444 A (B + (s (104 + 10 * k + 7))) (C + (s (104 + 10 * k + 8))) (D + (s (104 + 10 * k + 9))) 1 (nI (k + 1)) (setS m s) Q) : H_114_464 A B C D 1 (nI k) (s 0 + 1) (setS m s) Q := by
  have hW := CL_W hC
  have hC' : CL (setS m s) s := CL_S hC
  obtain ⟨eD, lD⟩ := WF_D hW
  have hk16 : k < 16 := by omega
  have hd := WF_dv hW hk
  obtain ⟨h0, l0, e0⟩ := hW.1
  obtain ⟨⟨p, lp, ep⟩, np⟩ := hW.2.2.2.2.2.1
  have hp : 0 < p := by
    rcases Nat.eq_zero_or_pos p with q | q
    · rw [q] at ep; exact absurd ep np
    · exact q
  have hm := Nat.mod_lt (h0 + k) hp
  rw [e0, nI_1]
  refine dn0 (n := p - (h0 + k) % p - 1) (P := fun j => H_114_464 A B C D 1 (nI k) (nI (h0 + 1 + j)) (setS m s) Q) ?_ ?_
  · refine T_114_464 ⟨by rw [rG6]; exact np, ?_⟩
    rw [rG6, ep, nI_add, iR_n (by omega) hp (by omega), ask_last hp]
    have e10 : (s 0 + s 6) - iR (s 0 + nI k) (s 6) = nI (h0 + 1 + (p - (h0 + k) % p - 1)) := by
      rw [e0, ep, nI_add, nI_add, iR_n (by omega) hp (by omega), pk_sub (by omega)]
      congr 1
      omega
    refine i_neg (by decide) ⟨gP0 hk16, gP1 hk16, gP2 hk16, LK80_0 hC' hk ⟨gD0 hk16, i_pos (rD0 hk16).symm (LK80_1 hC' hk ⟨gD1 hk16, i_pos (rD1 hk16).symm (LK80_2 hC' hk ⟨gD2 hk16, i_pos (rD2 hk16).symm (LK80_3 hC' hk ⟨gD3 hk16, i_pos (rD3 hk16).symm (LK80_4 hC' hk (i_pos (rP0 hk16).symm (LK80_5 hC' hk (i_pos (rP1 hk16).symm (LK80_6 hC' hk (i_pos (rP2 hk16).symm (LK80_7 hC' hk (i_pos (rC0 hk16).symm (LK80_8 hC' hk (i_pos (rC1 hk16).symm (LK80_9 hC' hk (i_pos (rC2 hk16).symm (LK80_10 hC' hk (i_pos e10 (LK80_11 hC' hk (i_pos rfl ?_))))))))))))))))⟩)⟩)⟩)⟩⟩
    rw [rC0 hk16, rC1 hk16, rC2 hk16, nI_1]
    by_cases h3 : (s (104 + 10 * k + 3)) = (-6)
    · exact i_pos (by rw [rD3 hk16, h3]; exact neg6) ih
    · obtain ⟨l3, l4, -, -⟩ := dv_lease hd h3
      refine i_neg (by rw [rD3 hk16]; exact rg_nn l3 (by omega)) ?_
      rw [rD3 hk16, rP0 hk16]
      refine M_103 hW hk16 l3 l4 ?_
      have hla : mAlwF s k (s (104 + 10 * k + 3)) (s (104 + 10 * k + 4)) = mLA s k := rfl
      rw [hla]
      have hx := ((hI.1 k hk).resolve_left h3).2
      by_cases h6 : (s (104 + 10 * k + 6)) = (-6)
      · rw [bP_bt (hx.mpr h6)]
        exact i_pos (by rw [rP2 hk16, h6]; exact neg6) (i_pos rfl ih)
      · have hf : mLA s k = false := by
          cases ha : mLA s k with
          | false => rfl
          | true => exact absurd (hx.mp ha) h6
        rw [bP_bf hf]
        exact i_neg (by rw [rP2 hk16]; exact rg_nn (dv_notice hd h6).2.2.2 (by omega)) (i_pos rfl ih)
  · intro j hj ihj
    refine T_114_464 ⟨by rw [rG6]; exact np, ?_⟩
    rw [rG6, ep, nI_add, iR_n (by omega) hp (by omega), nI_1]
    have hne := ask_next (h0 := h0) (k := k) hp j (by omega)
    exact i_pos (nI_lt (a := 0) (by omega) (by have := Nat.mod_lt (h0 + 1 + j + k) hp; omega)) ihj
theorem M_114_444 (hC : CL m s) (hI : IX s) (hA : A = sumN (fun k => (s (8 + 5 * k + 4))) (nS s)) (hQ : Q 1 (setS m s)) : H_114_444 A 0 0 0 1 0 (setS m s) Q := by
  have hW := CL_W hC
  obtain ⟨eD, lD⟩ := WF_D hW
  refine dn0 (n := nD s) (P := fun k => H_114_444 A (sumN (fun k => (s (104 + 10 * k + 7))) k) (sumN (fun k => (s (104 + 10 * k + 8))) k) (sumN (fun k => (s (104 + 10 * k + 9))) k) 1 (nI k) (setS m s) Q) ?_ ?_
  · refine T_114_444 ?_
    rw [rG3, eD]
    exact i_ge (Nat.le_refl _) (by omega) (M_114_826 hC hA rfl rfl rfl hQ)
  · intro k hk ih
    refine T_114_444 ?_
    rw [rG3, eD]
    refine i_lt hk (by omega) (i_neg (by decide) ?_)
    rw [rG0]
    exact M_114_464 hC hI hk ih
theorem ev_call {e k t : Nat} {b : Int32} (hC : CL m s) (hk : k < nE s) (ht : t < 8) (hb : b = bP ((s (48 + 7 * k + 6)) = 0 ∧ ¬ s 0 < (s (48 + 7 * k + 4)) ∧ s 0 < (s (48 + 7 * k + 5)))) (ih : H_114_311 A 0 0 0 1 (nI e + 1) (setS m s) Q) : Mi 79 [.inr (27, 0), .inl (nI k), .inl (nI t)] (setS m s) (fun v8 m7 => if nI t = 7 then (if v8 = b then H_114_311 A 0 0 0 1 (nI e + 1) m7 Q else H_114_311 A 0 0 0 0 (nI e + 1) m7 Q) else a_in ((7 * nI k) + nI t) 56 = true ∧ if v8 = (m7 36 0 ((7 * nI k) + nI t).toNatClampNeg) then H_114_311 A 0 0 0 1 (nI e + 1) m7 Q else H_114_311 A 0 0 0 0 (nI e + 1) m7 Q) := by
  have lE := (WF_E (CL_W hC)).2
  refine LK79 (CL_S hC) hk ht ?_
  by_cases h7 : t = 7
  · rw [if_pos h7]
    exact i_pos (by rw [h7]; rfl) (i_pos hb.symm ih)
  · rw [if_neg h7]
    have ej : (7 : Int32) * nI k + nI t = nI (7 * k + t) := jx 7 k t
    refine i_neg (by rw [show (7 : Int32) = nI 7 from rfl, nI_eq (by omega) (by omega)]; exact h7) ⟨a_in_I ej (by omega) (by omega), i_pos ?_ ih⟩
    rw [ix_G ej (by omega), S_ad ((aE_ (i := 7 * k + t) (by omega)).trans (congrArg some (show 48 + (7 * k + t) = 48 + 7 * k + t by omega)))]
theorem M_114_311 (hC : CL m s) (hI : IX s) (hA : A = sumN (fun k => (s (8 + 5 * k + 4))) (nS s)) (hQ : Q 1 (setS m s)) : H_114_311 A 0 0 0 1 0 (setS m s) Q := by
  have hW := CL_W hC
  obtain ⟨eE, lE⟩ := WF_E hW
  have e8 : (8 : Int32) * nI (nE s) = nI (8 * nE s) := pk_mul 8 _
  refine dn0 (n := 8 * nE s) (P := fun e => H_114_311 A 0 0 0 1 (nI e) (setS m s) Q) ?_ ?_
  · refine T_114_311 ?_
    rw [rG2, eE, e8]
    exact i_ge (Nat.le_refl _) (by omega) (M_114_444 hC hI hA hQ)
  · intro e he ih
    have a1 : nI e / 8 = nI (e / 8) := pk_div (d := 8) (by omega) (by omega) (by omega)
    have a2 : iR (nI e) 8 = nI (e % 8) := iR_n (d := 8) (by omega) (by omega) (by omega)
    have hk : e / 8 < nE s := by omega
    have ht : e % 8 < 8 := by omega
    refine T_114_311 ?_
    rw [rG2, eE, e8]
    refine i_lt he (by omega) (i_neg (by decide) ?_)
    rw [← nI_1] at ih
    simp only [a1, a2]
    generalize e / 8 = k at *
    generalize e % 8 = t at *
    have hk8 : k < 8 := by omega
    refine ⟨gE6 hk8, ?_⟩
    rw [rE6 hk8]
    by_cases h6 : (s (48 + 7 * k + 6)) = 0
    · refine i_pos h6 ⟨gE4 hk8, ?_⟩
      rw [rE4 hk8, rG0]
      by_cases h4 : s 0 < (s (48 + 7 * k + 4))
      · exact i_pos h4 (ev_call hC hk ht (bP_f (fun z => z.2.1 h4)).symm ih)
      · refine i_neg h4 ⟨gE5 hk8, ?_⟩
        rw [rE5 hk8]
        by_cases h5 : s 0 < (s (48 + 7 * k + 5))
        · exact i_pos h5 (ev_call hC hk ht (bP_t ⟨h6, h4, h5⟩).symm ih)
        · exact i_neg h5 (ev_call hC hk ht (bP_f (fun z => h5 z.2.2)).symm ih)
    · exact i_neg h6 (ev_call hC hk ht (bP_f (fun z => h6 z.1)).symm ih)
theorem M_114_18 (hI : IX s) (hQ : ∀ m, CL m s → Q 1 (setS m s)) (hC0 : CL m s) : H_114_18 0 0 0 0 1 0 (setS m s) Q := by
  have hW := CL_W hC0
  obtain ⟨eS, lS⟩ := WF_S hW
  obtain ⟨eD, lD⟩ := WF_D hW
  refine dn0 (n := nS s) (P := fun k => ∀ m, CL m s → H_114_18 (sumN (fun k => (s (8 + 5 * k + 4))) k) 0 0 0 1 (nI k) (setS m s) Q) ?_ ?_ m hC0
  · intro m hC
    refine T_114_18 ?_
    rw [rG1, eS]
    exact i_ge (Nat.le_refl _) (by omega) (M_114_311 hC hI rfl (hQ m hC))
  · intro k hk ih m hC
    have hC' : CL (setS m s) s := CL_S hC
    have hk8 : k < 8 := by omega
    obtain ⟨w2, w3, w4⟩ := WF_st hW hk
    refine T_114_18 ?_
    rw [rG1, eS]
    refine i_lt hk (by omega) (i_neg (by decide) ?_)
    by_cases h4 : (s (8 + 5 * k + 4)) = 1
    · have hW1 : WF (upd s (8 + 5 * k + 4) 0) := WF_awake hW hk8 (Or.inl rfl)
      refine dn0 (n := nD s) (P := fun j => H_114_43 (sumN (fun k => (s (8 + 5 * k + 4))) k) 0 0 0 1 (nI k) (5 * nI k) (nI (cntN (mAlone s k) j)) (nI j) (setS m s) Q) ?_ ?_
      · refine T_114_43 ?_
        rw [rG3, eD]
        refine i_ge (Nat.le_refl _) (by omega) ⟨gA4 hk8, ?_⟩
        refine LK78_0 hC' hk ⟨gA0 hk8, i_pos (rA0 hk8).symm (LK78_1 hC' hk ⟨gA1 hk8, i_pos (rA1 hk8).symm (LK78_2 hC' hk ⟨gA2 hk8, i_pos (rA2 hk8).symm (LK78_3 hC' hk ⟨gA3 hk8, i_pos (rA3 hk8).symm (LK78_4 hC' hk (i_pos ?_ (LK78_5 hC' hk (i_pos (rA4 hk8).symm (LK78_6 hC' hk (fun m' ho => i_pos rfl (LK78_7 (CL_t hC' ho) hk (i_pos rfl ?_))))))))⟩)⟩)⟩)⟩
        · rw [rA3 hk8, rad_L w3]
        · rw [rA4 hk8, nI_1]
          have e : m' = setS m' s := S_eq (fun c h1 _ => funext (fun d => ho c d (by omega)))
          rw [e]
          exact ih m' (CL_t hC' ho)
      · intro j hj ihj
        have hj16 : j < 16 := by omega
        have hd := WF_dv hW hj
        refine T_114_43 ?_
        rw [rG3, eD]
        refine i_lt hj (by omega) ⟨gA4 hk8, i_pos (by rw [rA4 hk8]; exact h4) ⟨gD3 hj16, ?_⟩⟩
        rw [rD3 hj16, nI_1]
        unfold cntN at ihj
        have no : mAlone s k j = false → H_114_43 (sumN (fun k => (s (8 + 5 * k + 4))) k) 0 0 0 1 (nI k) (5 * nI k) (nI (cntN (mAlone s k) j)) (nI (j + 1)) (setS m s) Q := by
          intro z
          rwa [if_neg (by rw [z]; decide), Nat.add_zero] at ihj
        by_cases h3 : (s (104 + 10 * j + 3)) = (-6)
        · exact i_pos (by rw [h3]; exact neg6) (no (by unfold mAlone; rw [show mHas s j = false from decide_eq_false (fun z => z h3)]; rfl))
        · obtain ⟨l3, l4, -, -⟩ := dv_lease hd h3
          have hh : mHas s j = true := decide_eq_true h3
          refine i_neg (rg_nn l3 (by omega)) ⟨gP0 hj16, ?_⟩
          rw [rP0 hj16]
          refine M_103 hW hj16 l3 l4 ?_
          have hla : mAlwF s j (s (104 + 10 * j + 3)) (s (104 + 10 * j + 4)) = mLA s j := rfl
          rw [hla]
          cases ha : mLA s j with
          | true => exact i_neg (by decide) (no (by unfold mAlone; rw [ha, hh]; rfl))
          | false =>
            refine i_pos (bP_bf rfl) (fun m10 e10 => ?_)
            have e : m10 = setS m (upd s (8 + 5 * k + 4) 0) := by rw [e10, uA4 hk8]
            subst e
            rw [rD3 hj16, rP0 hj16, upd_n (show ¬ 104 + 10 * j + 3 = 8 + 5 * k + 4 by omega), upd_n (show ¬ 104 + 10 * j + 4 = 8 + 5 * k + 4 by omega)]
            refine M_103 hW1 hj16 l3 l4 ?_
            have hlb : mAlwF (upd s (8 + 5 * k + 4) 0) j (s (104 + 10 * j + 3)) (s (104 + 10 * j + 4)) = mLA (upd s (8 + 5 * k + 4) 0) j := by
              unfold mLA
              rw [upd_n (show ¬ 104 + 10 * j + 3 = 8 + 5 * k + 4 by omega), upd_n (show ¬ 104 + 10 * j + 4 = 8 + 5 * k + 4 by omega)]
            rw [hlb]
            cases hb : mLA (upd s (8 + 5 * k + 4) 0) j with
            | false =>
              refine i_pos (bP_bf rfl) (fun m14 e14 => ?_)
              have e : m14 = setS m s := by rw [e14, uA4 hk8, upd_upd h4]
              subst e
              rw [nI_z0]
              exact no (by unfold mAlone; rw [hb, Bool.and_false])
            | true =>
              refine i_neg (by decide) (fun m15 e15 => ?_)
              have e : m15 = setS m s := by rw [e15, uA4 hk8, upd_upd h4]
              subst e
              rw [nI_1]
              rwa [if_pos (show mAlone s k j = true by unfold mAlone; rw [ha, hb, hh]; rfl)] at ihj
    · have h40 : (s (8 + 5 * k + 4)) = 0 := w4.resolve_right h4
      have h00 : nI (cntN (mAlone s k) (nD s)) = 0 := by
        have e : upd s (8 + 5 * k + 4) 0 = s := by rw [← h40]; exact upd_id
        rw [cntN_0 (fun j _ => by unfold mAlone; rw [e]; cases mLA s j <;> simp)]
        rfl
      refine T_114_43 ?_
      rw [rG3, eD]
      by_cases hD : 0 < nD s
      · refine i_pos (nI_lt (a := 0) hD (by omega)) ⟨gA4 hk8, i_neg (by rw [rA4 hk8]; exact h4) ?_⟩
        refine LK78_0 hC' hk ⟨gA0 hk8, i_pos (rA0 hk8).symm (LK78_1 hC' hk ⟨gA1 hk8, i_pos (rA1 hk8).symm (LK78_2 hC' hk ⟨gA2 hk8, i_pos (rA2 hk8).symm (LK78_3 hC' hk ⟨gA3 hk8, i_pos (rA3 hk8).symm (LK78_4 hC' hk (i_pos ?_ (LK78_5 hC' hk (i_pos (rA4 hk8).symm (LK78_6 hC' hk (fun m' ho => i_pos h00 (LK78_7 (CL_t hC' ho) hk (i_pos rfl ?_))))))))⟩)⟩)⟩)⟩
        · rw [rA3 hk8, rad_L w3]
        · rw [rA4 hk8, nI_1]
          have e : m' = setS m' s := S_eq (fun c h1 _ => funext (fun d => ho c d (by omega)))
          rw [e]
          exact ih m' (CL_t hC' ho)
      · refine i_neg (nI_nlt (a := 0) (b := nD s) (by omega) (by omega)) ⟨gA4 hk8, ?_⟩
        refine LK78_0 hC' hk ⟨gA0 hk8, i_pos (rA0 hk8).symm (LK78_1 hC' hk ⟨gA1 hk8, i_pos (rA1 hk8).symm (LK78_2 hC' hk ⟨gA2 hk8, i_pos (rA2 hk8).symm (LK78_3 hC' hk ⟨gA3 hk8, i_pos (rA3 hk8).symm (LK78_4 hC' hk (i_pos ?_ (LK78_5 hC' hk (i_pos (rA4 hk8).symm (LK78_6 hC' hk (fun m' ho => i_pos h00 (LK78_7 (CL_t hC' ho) hk (i_pos rfl ?_))))))))⟩)⟩)⟩)⟩
        · rw [rA3 hk8, rad_L w3]
        · rw [rA4 hk8, nI_1]
          have e : m' = setS m' s := S_eq (fun c h1 _ => funext (fun d => ho c d (by omega)))
          rw [e]
          exact ih m' (CL_t hC' ho)
theorem M_114 (hC : CL m s) (hI : IX s) (hQ : ∀ m, CL m s → Q 1 (setS m s)) : Mi 114 [.inr (27, 0), .inr (34, 0), .inr (35, 0), .inr (36, 0), .inr (37, 0), .inr (38, 0), .inr (39, 0)] (setS m s) Q := T_114 (M_114_18 hI hQ hC)
end LIS
