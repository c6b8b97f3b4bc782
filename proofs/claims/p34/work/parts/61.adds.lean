/-! the law's adding acts -/
section LAD
variable {m : aM} {s s' : aS0} {Q : Int32 → aM → Prop}
theorem in_r {a B : Nat} (h : a ≤ B) (hB : B < 2 ^ 31) : ¬ (nI a < 0 ∨ nI B < nI a) := fun z => z.elim (nI_pos (by omega)) (nI_nlt h (by omega))
theorem in_lo {a b B : Nat} (h1 : a ≤ b) (h : b ≤ B) (hB : B < 2 ^ 31) : ¬ (nI b < nI a ∨ nI B < nI b) := fun z => z.elim (nI_nlt h1 (by omega)) (nI_nlt h (by omega))
theorem upd_same {i : Nat} {v : Int32} (h : s i = v) : upd s i v = s := by rw [← h]; exact upd_id
theorem addS_4 {a b c p : Nat} (la : a ≤ 99) (lb : b ≤ 99) (lc : c ≤ 7) (lp : p ≤ 4) : aAddS (nI a) (nI b) (nI c) (nI p) s = if s 1 < 8 then (s 1, aNewS s (nI a) (nI b) (nI c) (nI p)) else ((-4), s) := by
  unfold aAddS
  rw [if_neg (show ¬ ((nI a < 0 ∨ 99 < nI a) ∨ (nI b < 0 ∨ 99 < nI b)) from fun z => z.elim (in_r (B := 99) la (by omega)) (in_r (B := 99) lb (by omega))), if_neg (show ¬ (nI c < 0 ∨ 7 < nI c) from in_r (B := 7) lc (by omega)), if_neg (show ¬ (nI p < 0 ∨ 4 < nI p) from in_r (B := 4) lp (by omega))]
theorem addE_4 {a b r c f t h : Nat} (la : a ≤ 99) (lb : b ≤ 99) (l1 : 1 ≤ r) (lr : r ≤ 30) (lc : c ≤ 7) (h0 : s 0 = nI h) (lf : h ≤ f) (lf2 : f ≤ 9998) (lt : f + 1 ≤ t) (lt2 : t ≤ 9999) : aAddE (nI a) (nI b) (nI r) (nI c) (nI f) (nI t) s = if s 2 < 8 then (s 2, mRev (aNewE s (nI a) (nI b) (nI r) (nI c) (nI f) (nI t))) else ((-4), s) := by
  unfold aAddE
  rw [if_neg (show ¬ ((nI a < 0 ∨ 99 < nI a) ∨ (nI b < 0 ∨ 99 < nI b)) from fun z => z.elim (in_r (B := 99) la (by omega)) (in_r (B := 99) lb (by omega))), if_neg (show ¬ (nI r < 1 ∨ 30 < nI r) from in_lo (a := 1) (B := 30) l1 lr (by omega)), if_neg (show ¬ (nI c < 0 ∨ 7 < nI c) from in_r (B := 7) lc (by omega)), h0, if_neg (show ¬ (nI f < nI h ∨ 9998 < nI f) from in_lo (B := 9998) lf lf2 (by omega)), nI_1, if_neg (show ¬ (nI t < nI (f + 1) ∨ 9999 < nI t) from in_lo (B := 9999) lt lt2 (by omega))]
theorem addD_4 {a b p : Nat} (la : a ≤ 99) (lb : b ≤ 99) (lp : p ≤ 3) : aAddD (nI a) (nI b) (nI p) s = if s 3 < 16 then (s 3, aNewD s (nI a) (nI b) (nI p)) else ((-4), s) := by
  unfold aAddD
  rw [if_neg (show ¬ ((nI a < 0 ∨ 99 < nI a) ∨ (nI b < 0 ∨ 99 < nI b)) from fun z => z.elim (in_r (B := 99) la (by omega)) (in_r (B := 99) lb (by omega))), if_neg (show ¬ (nI p < 0 ∨ 3 < nI p) from in_r (B := 3) lp (by omega))]
/-- a new device's counters were 0 -/
theorem newD_law {x y p : Int32} (hI : IX s) (h16 : nD s < 16) : aNewD s x y p = upd (mEnds (upd (upd (upd s (104 + 10 * nD s + 0) x) (104 + 10 * nD s + 1) y) (104 + 10 * nD s + 2) p) (nD s)) 3 (s 3 + 1) := by
  obtain ⟨z7, z8, z9⟩ := hI.2 (nD s) (Nat.le_refl _) h16
  unfold aNewD
  have q7 : (mEnds (upd (upd (upd s (104 + 10 * nD s + 0) x) (104 + 10 * nD s + 1) y) (104 + 10 * nD s + 2) p) (nD s)) (104 + 10 * nD s + 7) = 0 := by rw [mEnds_o (by omega), upd_n (by omega), upd_n (by omega), upd_n (by omega)]; exact z7
  have q8 : (mEnds (upd (upd (upd s (104 + 10 * nD s + 0) x) (104 + 10 * nD s + 1) y) (104 + 10 * nD s + 2) p) (nD s)) (104 + 10 * nD s + 8) = 0 := by rw [mEnds_o (by omega), upd_n (by omega), upd_n (by omega), upd_n (by omega)]; exact z8
  have q9 : (mEnds (upd (upd (upd s (104 + 10 * nD s + 0) x) (104 + 10 * nD s + 1) y) (104 + 10 * nD s + 2) p) (nD s)) (104 + 10 * nD s + 9) = 0 := by rw [mEnds_o (by omega), upd_n (by omega), upd_n (by omega), upd_n (by omega)]; exact z9
  rw [upd_same q7, upd_same q8, upd_same q9]
set_option maxHeartbeats 4000000 in
theorem M_110 {h v w : Nat} (hC : CL m s) (hI : IX s) (h0 : s 0 = nI h) (lh : h ≤ 5000) (lv : v < 10000000) (hw : w < 3) (hQ : ∀ m' s', CL m' s' → IX s' → s' 0 = s 0 → Q 1 (setS m' s')) : Mi 110 [.inr (27, 0), .inr (34, 0), .inr (35, 0), .inr (36, 0), .inr (37, 0), .inr (38, 0), .inr (39, 0), .inl (nI v), .inl (nI w)] (setS m s) Q := by
  have hW := CL_W hC
  obtain ⟨eS, lS⟩ := WF_S hW
  obtain ⟨eE, lE⟩ := WF_E hW
  obtain ⟨eD, lD⟩ := WF_D hW
  have a1 : iR (nI v) 60 = nI (v % 60) := iR_n (d := 60) (by omega) (by omega) (by omega)
  have a2 : nI v / 60 = nI (v / 60) := pk_div (d := 60) (by omega) (by omega) (by omega)
  have a3 : iR (nI (v / 60)) 60 = nI (v / 60 % 60) := iR_n (d := 60) (by omega) (by omega) (by omega)
  have a4 : nI v / 3600 = nI (v / 3600) := pk_div (d := 3600) (by omega) (by omega) (by omega)
  have a5 : iR (nI (v / 3600)) 8 = nI (v / 3600 % 8) := iR_n (d := 8) (by omega) (by omega) (by omega)
  have a6 : nI v / 28800 = nI (v / 28800) := pk_div (d := 28800) (by omega) (by omega) (by omega)
  have a7 : iR (nI (v / 28800)) 5 = nI (v / 28800 % 5) := iR_n (d := 5) (by omega) (by omega) (by omega)
  have a8 : iR (nI (v / 28800)) 6 = nI (v / 28800 % 6) := iR_n (d := 6) (by omega) (by omega) (by omega)
  have a9 : nI v / 7 = nI (v / 7) := pk_div (d := 7) (by omega) (by omega) (by omega)
  have a10 : iR (nI (v / 7)) 9 = nI (v / 7 % 9) := iR_n (d := 9) (by omega) (by omega) (by omega)
  have a11 : nI v / 5 = nI (v / 5) := pk_div (d := 5) (by omega) (by omega) (by omega)
  have a12 : iR (nI (v / 5)) 30 = nI (v / 5 % 30) := iR_n (d := 30) (by omega) (by omega) (by omega)
  have a13 : (1 : Int32) + nI (v / 5 % 30) = nI (1 + v / 5 % 30) := nI_add 1 _
  have a14 : iR (nI (v / 3600)) 4 = nI (v / 3600 % 4) := iR_n (d := 4) (by omega) (by omega) (by omega)
  refine T_110 ?_
  simp only [a1, a2, a3, a4, a5, a6, a7, a8, a9, a10, a11, a12, a13, a14]
  have la : v % 60 ≤ 99 := by omega
  have lb : v / 60 % 60 ≤ 99 := by omega
  have lc : v / 3600 % 8 ≤ 7 := by omega
  have lp : v / 28800 % 5 ≤ 4 := by omega
  have lq : v / 3600 % 4 ≤ 3 := by omega
  have lr : 1 + v / 5 % 30 ≤ 30 := by omega
  have lr1 : 1 ≤ 1 + v / 5 % 30 := by omega
  have lf : v / 28800 % 6 ≤ 5 := by omega
  have lt : v / 7 % 9 ≤ 8 := by omega
  generalize v % 60 = xa at *
  generalize v / 60 % 60 = xb at *
  generalize v / 3600 % 8 = xc at *
  generalize v / 28800 % 5 = xp at *
  generalize v / 3600 % 4 = xq at *
  generalize 1 + v / 5 % 30 = xr at *
  generalize v / 28800 % 6 = xf at *
  generalize v / 7 % 9 = xt at *
  clear a1 a2 a3 a4 a5 a6 a7 a8 a9 a10 a11 a12 a13 a14
  rcases (show w = 0 ∨ w = 1 ∨ w = 2 by omega) with rfl | rfl | rfl
  · refine i_pos rfl ?_
    rw [rG1, eS]
    by_cases h8 : nS s = 8
    · refine i_pos (by rw [h8]; rfl) (X_60 hC (fun m' h' => ?_))
      have ea : aAddS (nI xa) (nI xb) (nI xc) 0 s = ((-4), s) := by
        rw [show (0 : Int32) = nI 0 from rfl, addS_4 la lb lc (by omega), eS, h8]
        exact if_neg (by decide)
      rw [ea] at h' ⊢
      exact i_pos rfl (hQ m' s h' hI rfl)
    · have hk : nS s < 8 := by omega
      refine i_neg (by rw [show (8 : Int32) = nI 8 from rfl, nI_eq (by omega) (by omega)]; exact h8) ?_
      refine ⟨gA0 hk, fun m7 e7 => ⟨gA1 hk, fun m9 e9 => ⟨gA2 hk, fun m11 e11 => ⟨gA3 hk, fun m13 e13 => ⟨gA4 hk, fun m15 e15 m16 e16 => ?_⟩⟩⟩⟩⟩
      have e : m16 = setS m (aNewS s (nI xa) (nI xb) (nI xc) (nI xp)) := by
        rw [e16, e15, e13, e11, e9, e7, uA0 hk, uA1 hk, uA2 hk, uA3 hk, uA4 hk, rG1, uG1, upd_n (by omega), upd_n (by omega), upd_n (by omega), upd_n (by omega), upd_n (by omega)]
        rfl
      rw [e, rA3 hk, show aNewS s (nI xa) (nI xb) (nI xc) (nI xp) (8 + 5 * nS s + 3) = nI xp by unfold aNewS; rw [upd_n (by omega), upd_n (by omega), upd_e]]
      refine X_60 hC (fun m' h' => ?_)
      have ea : aAddS (nI xa) (nI xb) (nI xc) (nI xp) s = (s 1, aNewS s (nI xa) (nI xb) (nI xc) (nI xp)) := by
        rw [addS_4 la lb lc lp]
        exact if_pos (by rw [eS]; exact nI_lt (b := 8) hk (by omega))
      rw [ea] at h' ⊢
      refine i_pos ?_ (hQ m' _ h' (IX_newS hI hW hk) (newS_o (by omega) (by omega)))
      rw [rG1, show aNewS s (nI xa) (nI xb) (nI xc) (nI xp) 1 = s 1 + 1 by unfold aNewS; rw [upd_e], eS, nI_1, nI_pred]
  · refine i_neg (by decide) (i_pos rfl ?_)
    rw [rG2, eE, rG0, h0, nI_add, nI_1, nI_add]
    have lf1 : h ≤ h + xf := by omega
    have lf2 : h + xf ≤ 9998 := by omega
    have lt1 : h + xf + 1 ≤ h + xf + 1 + xt := by omega
    have lt2 : h + xf + 1 + xt ≤ 9999 := by omega
    by_cases h8 : nE s = 8
    · refine i_pos (by rw [h8]; rfl) (X_61 hC (fun m' h' => ?_))
      have ea : aAddE (nI xa) (nI xb) 3 (nI xc) (nI (h + xf)) (nI (h + xf + 1 + xt)) s = ((-4), s) := by
        rw [show (3 : Int32) = nI 3 from rfl, addE_4 la lb (by omega) (by omega) lc h0 lf1 lf2 lt1 lt2, eE, h8]
        exact if_neg (by decide)
      rw [ea] at h' ⊢
      exact i_pos rfl (hQ m' s h' hI rfl)
    · have hk : nE s < 8 := by omega
      refine i_neg (by rw [show (8 : Int32) = nI 8 from rfl, nI_eq (by omega) (by omega)]; exact h8) ?_
      refine ⟨gE0 hk, fun m26 e26 => ⟨gE1 hk, fun m28 e28 => ⟨gE2 hk, fun m30 e30 => ⟨gE3 hk, fun m32 e32 => ⟨gE4 hk, fun m34 e34 => ⟨gE5 hk, fun m36 e36 => ⟨gE6 hk, fun m38 e38 m39 e39 => ?_⟩⟩⟩⟩⟩⟩⟩
      have e : m39 = setS m (aNewE s (nI xa) (nI xb) (nI xr) (nI xc) (nI (h + xf)) (nI (h + xf + 1 + xt))) := by
        rw [e39, e38, e36, e34, e32, e30, e28, e26, uE0 hk, uE1 hk, uE2 hk, uE3 hk, uE4 hk, uE5 hk, uE6 hk, rG2, uG2, upd_n (by omega), upd_n (by omega), upd_n (by omega), upd_n (by omega), upd_n (by omega), upd_n (by omega), upd_n (by omega)]
        rfl
      rw [e]
      have hWe : WF (aNewE s (nI xa) (nI xb) (nI xr) (nI xc) (nI (h + xf)) (nI (h + xf + 1 + xt))) := WF_newE hW hk ⟨h + xf, by omega, rfl⟩ ⟨h + xf + 1 + xt, by omega, rfl⟩
      refine M_105 hWe ?_
      rw [rE2 hk, mRev_lo (by omega), show aNewE s (nI xa) (nI xb) (nI xr) (nI xc) (nI (h + xf)) (nI (h + xf + 1 + xt)) (48 + 7 * nE s + 2) = nI xr by unfold aNewE; rw [upd_n (by omega), upd_n (by omega), upd_n (by omega), upd_n (by omega), upd_n (by omega), upd_e]]
      refine X_61 hC (fun m' h' => ?_)
      have ea : aAddE (nI xa) (nI xb) (nI xr) (nI xc) (nI (h + xf)) (nI (h + xf + 1 + xt)) s = (s 2, mRev (aNewE s (nI xa) (nI xb) (nI xr) (nI xc) (nI (h + xf)) (nI (h + xf + 1 + xt)))) := by
        rw [addE_4 la lb lr1 lr lc h0 lf1 lf2 lt1 lt2]
        exact if_pos (by rw [eE]; exact nI_lt (b := 8) hk (by omega))
      rw [ea] at h' ⊢
      refine i_pos ?_ (hQ m' _ h' (IX_newE hI hW hk ⟨h + xf, by omega, rfl⟩ ⟨h + xf + 1 + xt, by omega, rfl⟩) ((mRev_lo (by omega)).trans (aNewE_o (by omega) (by omega))))
      rw [rG2, mRev_lo (by omega), show aNewE s (nI xa) (nI xb) (nI xr) (nI xc) (nI (h + xf)) (nI (h + xf + 1 + xt)) 2 = s 2 + 1 by unfold aNewE; rw [upd_e], eE, nI_1, nI_pred]
  · refine i_neg (by decide) (i_neg (by decide) ?_)
    rw [rG3, eD]
    by_cases h8 : nD s = 16
    · refine i_pos (by rw [h8]; rfl) (X_62 hC (fun m' h' => ?_))
      have ea : aAddD (nI xa) (nI xb) 0 s = ((-4), s) := by
        rw [show (0 : Int32) = nI 0 from rfl, addD_4 la lb (by omega), eD, h8]
        exact if_neg (by decide)
      rw [ea] at h' ⊢
      exact i_pos rfl (hQ m' s h' hI rfl)
    · have hk : nD s < 16 := by omega
      refine i_neg (by rw [show (16 : Int32) = nI 16 from rfl, nI_eq (by omega) (by omega)]; exact h8) ?_
      refine ⟨gD0 hk, fun m49 e49 => ?_⟩
      have e1 : m49 = setS m (upd s (104 + 10 * nD s + 0) (nI xa)) := by rw [e49, uD0 hk]
      subst e1
      rw [rG3, upd_n (by omega), eD]
      refine ⟨gD1 hk, fun m51 e51 => ?_⟩
      have e2 : m51 = setS m (upd (upd s (104 + 10 * nD s + 0) (nI xa)) (104 + 10 * nD s + 1) (nI xb)) := by rw [e51, uD1 hk]
      subst e2
      rw [rG3, upd_n (by omega), upd_n (by omega), eD]
      refine ⟨gD2 hk, fun m53 e53 => ?_⟩
      have e3 : m53 = setS m (upd (upd (upd s (104 + 10 * nD s + 0) (nI xa)) (104 + 10 * nD s + 1) (nI xb)) (104 + 10 * nD s + 2) (nI xq)) := by rw [e53, uD2 hk]
      subst e3
      rw [rG3, upd_n (by omega), upd_n (by omega), upd_n (by omega), eD]
      refine M_106 hk (fun m55 e55 => ?_)
      have e4 : m55 = setS m (aNewD s (nI xa) (nI xb) (nI xq)) := by
        rw [e55, rG3, uG3, mEnds_o (by omega), upd_n (by omega), upd_n (by omega), upd_n (by omega), newD_law hI hk]
      subst e4
      refine X_62 hC (fun m' h' => ?_)
      have ea : aAddD (nI xa) (nI xb) (nI xq) s = (s 3, aNewD s (nI xa) (nI xb) (nI xq)) := by
        rw [addD_4 la lb lq]
        exact if_pos (by rw [eD]; exact nI_lt (b := 16) hk (by omega))
      rw [ea] at h' ⊢
      refine i_pos ?_ (hQ m' _ h' (IX_newD hI hW hk) (aNewD_o (by omega) (by omega)))
      rw [rG3, show aNewD s (nI xa) (nI xb) (nI xq) 3 = s 3 + 1 by unfold aNewD; rw [upd_e], eD, nI_1, nI_pred]
end LAD
