/-! run: the acts of the text, on both sides -/
section RUN
variable {m : aM} {tx : Nat → Int32} {t a : Nat} {s : aS0} {v x y p h lo hi f g : Int32} {Q : Int32 → aM → Prop} {Qv : aM → Prop}
def aDo (k x y z : Int32) : aS0 → Int32 × aS0 := if k = 103 then aBack x else if k = 108 then aLease x y z else if k = 119 then aTurn x 1 else if k = 122 then aTurn x 0 else aPass x
def pRun (tx : Nat → Int32) (t : Nat) : Nat → Nat → Nat → aS0 → Nat × aS0
  | 0, _, c, s => (c, s)
  | n + 1, a, c, s => if a < t then (match pAct tx t a with
    | .inl _ => (c, s)
    | .inr (x, y, z, b) => if (aDo (tx a) x y z s).1 < 0 then (c, (aDo (tx a) x y z s).2) else pRun tx t n b (c + 1) (aDo (tx a) x y z s).2) else (c, s)
theorem pRun_s (n a c : Nat) : pRun tx t (n + 1) a c s = if a < t then (match pAct tx t a with
    | .inl _ => (c, s)
    | .inr (x, y, z, b) => if (aDo (tx a) x y z s).1 < 0 then (c, (aDo (tx a) x y z s).2) else pRun tx t n b (c + 1) (aDo (tx a) x y z s).2) else (c, s) := rfl
def sOk (s : aS0) : Prop := WF s ∧ rg (s 0) 9999
theorem ok_back (h : sOk s) : sOk (aBack x s).2 := by
  unfold aBack
  split
  · split
    · refine ⟨WF_ends h.1, ?_⟩
      show rg (mEnds s x.toNatClampNeg 0) 9999
      rw [mEnds_o (by omega)]
      exact h.2
    · exact h
  · exact h
theorem ok_4 (h : sOk s) : sOk (upd s 4 v) := ⟨WF_4 h.1, by rw [upd_n (by omega)]; exact h.2⟩
theorem ok_lease {hh : Int32} (h : sOk s) : sOk (aLease x p hh s).2 := by
  obtain ⟨eD, lD⟩ := WF_D h.1
  unfold aLease
  by_cases h1 : ¬ x < 0 ∧ x < s 3
  · rw [if_pos h1]
    obtain ⟨k, hk, rfl⟩ := has_nI (eD ▸ h1) (by omega)
    rw [ixK (by omega)]
    by_cases h2 : p < 0 ∨ 3 < p
    · rw [if_pos h2]; exact h
    rw [if_neg h2]
    by_cases h3 : hh < 1 ∨ 99 < hh
    · rw [if_pos h3]; exact h
    rw [if_neg h3]
    by_cases h4 : mRef s k p = 0
    · rw [if_pos h4]
      obtain ⟨-, -, -, r6⟩ := ref_0 h4
      refine ⟨WF_newL h.1 h.2 hk ((mOff_rg s k p).elim (fun z => absurd z r6) id) (rg_of (B := 3) (by omega) h2) (rg_1of (B := 99) (by omega) h3), ?_⟩
      unfold aNewL
      dsimp only
      rw [upd_n (by omega), upd_n (by omega), upd_n (by omega), upd_n (by omega), upd_n (by omega)]
      exact h.2
    · rw [if_neg h4]; exact ok_4 h
  · rw [if_neg h1]; exact h
theorem ok_turn {w : Int32} (hw : w = 0 ∨ w = 1) (h : sOk s) : sOk (aTurn x w s).2 := by
  obtain ⟨eS, lS⟩ := WF_S h.1
  unfold aTurn
  by_cases h1 : ¬ x < 0 ∧ x < s 1
  · rw [if_pos h1]
    obtain ⟨k, hk, rfl⟩ := has_nI (eS ▸ h1) (by omega)
    rw [ixK (by omega)]
    by_cases h2 : (s (8 + 5 * k + 4)) = w
    · rw [if_pos h2]; exact h
    · rw [if_neg h2]
      refine ⟨WF_rev (WF_awake h.1 (by omega) hw), ?_⟩
      dsimp only
      rw [mRev_lo (by omega), upd_n (by omega)]
      exact h.2
  · rw [if_neg h1]; exact h
theorem ok_pass (h : sOk s) : sOk (aPass x s).2 := by
  obtain ⟨b, lb, eb⟩ := h.2
  unfold aPass
  by_cases h1 : x < 1 ∨ 99 < x
  · rw [if_pos h1]; exact h
  rw [if_neg h1]
  by_cases h2 : 9999 < s 0 + x
  · rw [if_pos h2]; exact h
  rw [if_neg h2]
  obtain ⟨n, ln, rfl⟩ := rg_1of (B := 99) (by omega) h1
  rw [eb, nI_add, show (9999 : Int32) = nI 9999 from rfl, nI_ltI (by omega) (by omega)] at h2
  rw [ixK (by omega)]
  obtain ⟨q1, q2, q3⟩ := mPn_ok h.1 eb n (by omega)
  exact ⟨q1, ⟨b + n, by omega, q2⟩⟩
theorem ok_do {k z : Int32} (h : sOk s) : sOk (aDo k x y z s).2 := by
  unfold aDo
  split
  · exact ok_back h
  · split
    · exact ok_lease h
    · split
      · exact ok_turn (Or.inr rfl) h
      · split
        · exact ok_turn (Or.inl rfl) h
        · exact ok_pass h
/-- the class's loop comes to its end -/
theorem H74_end {c : Nat} {k : Int32} (hend : v < 0 ∨ ¬ (m 32 0 3 = (-6) ∧ m 32 0 2 < m 32 0 1)) (hQ : Mi 91 [.inr (27, 0), .inl (nI c)] m Q) : H_74_39 (nI c) v k m Q := by
  have q : Mi 91 [.inr (27, 0), .inl (nI c)] m (fun v5 m4 => Q v5 m4) := hQ
  refine T_74_39 ?_
  by_cases h1 : k < 80
  · refine i_pos h1 ?_
    by_cases h2 : m 32 0 3 = (-6) ∧ m 32 0 2 < m 32 0 1
    · refine i_pos h2 (i_pos (hend.elim id (fun z => absurd h2 z)) q)
    · exact i_neg h2 q
  · exact i_neg h1 q
theorem K_74 {m1 : aM} (hT1 : Tc m1 tx t) (hQ : ∀ m2, RpH m2 0 (pRun tx t 81 0 0 s).2 → (∀ c d, (27 ≤ c ∨ ¬ d = 0) → ¬ c = 32 → m2 c d = m1 c d) → m2 32 0 1 = m1 32 0 1 → Mi 91 [.inr (27, 0), .inl (nI (pRun tx t 81 0 0 s).1)] m2 Q) (hno : pFt tx t 81 0 = (-6)) : ∀ n k a c m' (s' : aS0) (w : Int32), t - a < n → k ≤ a → a ≤ t → RpH m' 0 s' → (∀ c d, (27 ≤ c ∨ ¬ d = 0) → ¬ c = 32 → m' c d = m1 c d) → m' 32 0 1 = m1 32 0 1 → m' 32 0 3 = (-6) → m' 32 0 2 = nI a → ¬ w < 0 → pFt tx t n a = (-6) → pRun tx t 81 0 0 s = pRun tx t n a c s' → H_74_39 (nI c) w (nI k) m' Q := by
  have l80 := hT1.1
  intro n
  induction n with
  | zero => intro k a c m' s' w hn; exact absurd hn (Nat.not_lt_zero _)
  | succ n ih =>
    intro k a c m' s' w hn hk la hR ho h1 hf ha hw hp he
    rw [pRun_s n] at he
    rw [pFt_s n] at hp
    have h' : Tc m' tx t := ⟨hT1.1, h1.trans hT1.2.1, fun j hj => by rw [ho 33 0 (by omega) (by omega)]; exact hT1.2.2 j hj⟩
    by_cases hat : a < t
    · rw [if_pos hat] at he hp
      have hmore : m' 32 0 3 = (-6) ∧ m' 32 0 2 < m' 32 0 1 := ⟨hf, by rw [ha, h'.2.1]; exact nI_lt hat (by omega)⟩
      refine T_74_39 (i_pos (nI_lt (b := 80) (by omega) (by omega)) (i_pos hmore (i_neg hw (K_5 h' hf ha hat ?_))))
      cases hpa : pAct tx t a with
      | inl q =>
        rw [hpa] at hp
        dsimp only at hp
        exact absurd hp (nI_n6 (by have := pAct_q hat hpa; omega))
      | inr z =>
        obtain ⟨f', g', h'', b⟩ := z
        rw [hpa] at hp he
        dsimp only at hp he ⊢
        have hb := pAct_lt hpa
        intro m6 k6 f6 p6 c6 v5 v67
        have hR6 : RpH m6 0 s' := RpH_same hR (fun c hc => k6.1 c 0 (by omega)) (fun c hc => k6.1 c 0 (by omega))
        have ho6 : ∀ c d, (27 ≤ c ∨ ¬ d = 0) → ¬ c = 32 → m6 c d = m1 c d := fun c d q1 q2 => (k6.1 c d q2).trans (ho c d q1 q2)
        have h16 : m6 32 0 1 = m1 32 0 1 := k6.2.trans h1
        have go : ∀ m8, RpH m8 0 (aDo (tx a) f' g' h'' s').2 → Fr 0 m6 m8 → (if (aDo (tx a) f' g' h'' s').1 < 0 then H_74_39 (nI c) (aDo (tx a) f' g' h'' s').1 (nI k + 1) m8 Q else H_74_39 (nI c + 1) (aDo (tx a) f' g' h'' s').1 (nI k + 1) m8 Q) := by
          intro m8 hR8 hF8
          have ho8 : ∀ c d, (27 ≤ c ∨ ¬ d = 0) → ¬ c = 32 → m8 c d = m1 c d := fun c d q1 q2 => (hF8 c d q1).trans (ho6 c d q1 q2)
          have e32 : m8 32 0 = m6 32 0 := hF8 32 0 (Or.inl (by omega))
          by_cases hv : (aDo (tx a) f' g' h'' s').1 < 0
          · rw [if_pos hv] at he
            refine i_pos hv (H74_end (Or.inl hv) ?_)
            have := hQ m8 (by rw [he]; exact hR8) ho8 (by rw [e32]; exact h16)
            rwa [he] at this
          · rw [if_neg hv] at he
            refine i_neg hv ?_
            rw [nI_1, nI_1]
            exact ih (k + 1) b (c + 1) m8 _ _ (by omega) (by omega) hb.2 hR8 ho8 (by rw [e32]; exact h16) (by rw [e32]; exact f6) (by rw [e32]; exact p6) hv hp he
        rw [c6, v5]
        by_cases q1 : tx a = 103
        · have e : aDo (tx a) f' g' h'' = aBack f' := by unfold aDo; rw [if_pos q1]
          rw [e] at go
          exact i_pos q1 (C_39 m6 0 s' _ hR6 go)
        refine i_neg q1 ?_
        by_cases q2 : tx a = 108
        · have e : aDo (tx a) f' g' h'' = aLease f' g' h'' := by unfold aDo; rw [if_neg q1, if_pos q2]
          rw [e] at go
          rw [(v67 q2).1, (v67 q2).2]
          exact i_pos q2 (C_37 m6 0 s' _ hR6 go)
        refine i_neg q2 ?_
        by_cases q3 : tx a = 119
        · have e : aDo (tx a) f' g' h'' = aTurn f' 1 := by unfold aDo; rw [if_neg q1, if_neg q2, if_pos q3]
          rw [e] at go
          exact i_pos q3 (C_35 (Or.inr rfl) m6 0 s' _ hR6 go)
        refine i_neg q3 ?_
        by_cases q4 : tx a = 122
        · have e : aDo (tx a) f' g' h'' = aTurn f' 0 := by unfold aDo; rw [if_neg q1, if_neg q2, if_neg q3, if_pos q4]
          rw [e] at go
          exact i_pos q4 (C_35 (Or.inl rfl) m6 0 s' _ hR6 go)
        have e : aDo (tx a) f' g' h'' = aPass f' := by unfold aDo; rw [if_neg q1, if_neg q2, if_neg q3, if_neg q4]
        rw [e] at go
        exact i_neg q4 (C_40 m6 0 s' _ hR6 go)
    · rw [if_neg hat] at he
      refine H74_end (Or.inr (fun z => ?_)) ?_
      · rw [ha, h'.2.1, nI_ltI (by omega) (by omega)] at z
        exact hat z.2
      · have := hQ m' (by rw [he]; exact hR) ho h1
        rwa [he] at this
/-- the reference's memory but for its reader's cells and the row -/
def Rk5 (m m' : aM) : Prop := (∀ c d, ¬ c = 34 → ¬ (c = 35 ∧ d = 0) → m' c d = m c d) ∧ ∀ j, (j < 9 ∨ 12 < j) → m' 34 0 j = m 34 0 j
theorem B_152 {k z : Int32} (hW : sOk s) (hr : ¬ m 34 0 6 = 0) (hs : m 35 0 = s) (e10 : m 34 0 10 = x) (e11 : k = 108 → m 34 0 11 = y ∧ m 34 0 12 = z) (hQ : Q (aDo k x y z s).1 (setS m (aDo k x y z s).2)) : Mi 152 [.inr (34, 0), .inl k] m Q := by
  have hm : m = setS m s := by rw [← hs, S_self]
  have hp : pOk m := fun z => absurd z hr
  have fin : ∀ (A : aS0 → Int32 × aS0) (P : Int32 → aM → Prop), P (A s).1 (setS m (A s).2) → ∀ m1, (if (A s).1 < 0 then m1 = setS m s else Rec (setS m s) m1) → P (A s).1 (setS m1 (A s).2) := by
    intro A P h m1 h1
    have e1 : m1 = setS m s := by
      by_cases hv : (A s).1 < 0
      · rwa [if_pos hv] at h1
      · rw [if_neg hv] at h1
        rcases h1 with ⟨-, e⟩ | ⟨q, -⟩
        · exact e
        · rw [setS_o (by omega)] at q
          exact absurd q hr
    rw [e1, S_S]
    exact h
  refine T_152 ?_
  rw [e10]
  by_cases q1 : k = 103
  · have e : aDo k x y z = aBack x := by unfold aDo; rw [if_pos q1]
    rw [e] at hQ
    refine i_pos q1 ?_
    have := B_143 m s (fun v m1 => Q v m1) hW.1 hW.2 hp (fin _ (fun v m1 => Q v m1) hQ)
    rwa [← hm] at this
  refine i_neg q1 ?_
  by_cases q2 : k = 108
  · have e : aDo k x y z = aLease x y z := by unfold aDo; rw [if_neg q1, if_pos q2]
    rw [e] at hQ
    rw [(e11 q2).1, (e11 q2).2]
    refine i_pos q2 ?_
    have := B_141 m s (fun v m1 => Q v m1) hW.1 hW.2 hp (fin _ (fun v m1 => Q v m1) hQ)
    rwa [← hm] at this
  refine i_neg q2 ?_
  by_cases q3 : k = 119
  · have e : aDo k x y z = aTurn x 1 := by unfold aDo; rw [if_neg q1, if_neg q2, if_pos q3]
    rw [e] at hQ
    refine i_pos q3 ?_
    have := B_136 m s (fun v m1 => Q v m1) hW.1 hW.2 hp (fin _ (fun v m1 => Q v m1) hQ)
    rwa [← hm] at this
  refine i_neg q3 ?_
  by_cases q4 : k = 122
  · have e : aDo k x y z = aTurn x 0 := by unfold aDo; rw [if_neg q1, if_neg q2, if_neg q3, if_pos q4]
    rw [e] at hQ
    refine i_pos q4 ?_
    have := B_137 m s (fun v m1 => Q v m1) hW.1 hW.2 hp (fin _ (fun v m1 => Q v m1) hQ)
    rwa [← hm] at this
  have e : aDo k x y z = aPass x := by unfold aDo; rw [if_neg q1, if_neg q2, if_neg q3, if_neg q4]
  rw [e] at hQ
  refine i_neg q4 ?_
  have := B_144 m s (fun v m1 => Q v m1) hW.1 hW.2 hp (fin _ (fun v m1 => Q v m1) hQ)
  rwa [← hm] at this
theorem R_153 {M0 : aM} (hT : Tr M0 tx t) (hr0 : ¬ M0 34 0 6 = 0) (hQ : ∀ M, M 35 0 = (pRun tx t 81 0 0 s).2 → Rk5 M0 M → Q (nI (pRun tx t 81 0 0 s).1) (a_up M 34 0 6 0)) : ∀ n a c M (s' : aS0), t - a < n → a ≤ t → sOk s' → M 35 0 = s' → Rk5 M0 M → M 34 0 9 = nI a → pFt tx t n a = (-6) → pRun tx t 81 0 0 s = pRun tx t n a c s' → H_153_30 (nI c) 1 M Q := by
  have l80 := hT.1
  intro n
  induction n with
  | zero => intro a c M s' hn; exact absurd hn (Nat.not_lt_zero _)
  | succ n ih =>
    intro a c M s' hn la hW hs hk ha hp he
    rw [pRun_s n] at he
    rw [pFt_s n] at hp
    have h' : Tr M tx t := ⟨hT.1, (hk.2 8 (by omega)).trans hT.2.1, fun j hj => by rw [hk.1 40 0 (by omega) (by omega)]; exact hT.2.2 j hj⟩
    refine T_153_30 (i_neg (by decide) ?_)
    by_cases hat : a < t
    · rw [if_pos hat] at he hp
      refine i_pos (by rw [ha, h'.2.1]; exact nI_lt hat (by omega)) ⟨by rw [ha]; exact inK (by omega) (by omega), R_150 h' ha hat ?_⟩
      cases hpa : pAct tx t a with
      | inl q =>
        rw [hpa] at hp
        dsimp only at hp
        exact absurd hp (nI_n6 (by have := pAct_q hat hpa; omega))
      | inr z =>
        obtain ⟨f', g', h'', b⟩ := z
        rw [hpa] at hp he
        dsimp only at hp he ⊢
        have hb := pAct_lt hpa
        intro M5 k5 a5 v10 v11
        have k05 : Rk5 M0 M5 := ⟨fun c d q1 q2 => (k5.1 c d q1).trans (hk.1 c d q1 q2), fun j q => (k5.2 j q).trans (hk.2 j q)⟩
        have hs5 : M5 35 0 = s' := (k5.1 35 0 (by omega)).trans hs
        refine i_neg (by decide) ?_
        rw [ha, ixK (by omega), h'.2.2 a hat]
        refine B_152 hW (by rw [k05.2 6 (by omega)]; exact hr0) hs5 v10 v11 ?_
        have k8 : Rk5 M0 (setS M5 (aDo (tx a) f' g' h'' s').2) := ⟨fun c d q1 q2 => by rw [setS_o (by omega)]; exact k05.1 c d q1 q2, fun j q => by rw [setS_o (by omega)]; exact k05.2 j q⟩
        by_cases hv : (aDo (tx a) f' g' h'' s').1 < 0
        · rw [if_pos hv] at he
          refine i_pos hv ?_
          rw [nI_z0]
          refine T_153_30 (i_pos rfl ?_)
          intro m2 e2
          have := hQ _ (by rw [he, setS_e]) k8
          rw [he] at this
          rw [e2]
          exact this
        · rw [if_neg hv] at he
          refine i_neg hv ?_
          rw [nI_1]
          exact ih b (c + 1) _ _ (by omega) hb.2 (ok_do hW) setS_e k8 (by rw [setS_o (by omega)]; exact a5) hp he
    · rw [if_neg hat] at he
      refine i_neg (by rw [ha, h'.2.1]; exact nI_nlt (by omega) (by omega)) ?_
      intro m11 e11
      have := hQ M (by rw [he]; exact hs) hk
      rw [he] at this
      rw [e11]
      exact this
theorem pRun_le : ∀ n a c (s : aS0), (pRun tx t n a c s).1 ≤ c + n
  | 0, _, _, _ => Nat.le_refl _
  | n + 1, a, c, s => by
    rw [pRun_s]
    split
    · split
      · show c ≤ _
        omega
      · split
        · show c ≤ _
          omega
        · rename_i b _ _
          have := pRun_le n b (c + 1)
          exact Nat.le_trans (this _) (by omega)
    · show c ≤ _
      omega
theorem E_run : Same 74 [.inr (27, 0)] 153 [.inr (34, 0)] := by
  intro m Q hS hQ
  obtain ⟨t, hc, hr⟩ := Sim_Tc hS
  generalize htx : m 33 0 = tx at hc hr
  have l80 := hc.1
  refine T_74 (K_2 hc ?_)
  intro m1 k1
  have hS1 : Sim m1 := Sim_read hS k1 Rk_rf
  have hc1 := Tc_k hc k1
  have hr1 : Tr m1 tx t := ⟨hr.1, by rw [k1.1 34 0 (by omega)]; exact hr.2.1, fun j hj => by rw [k1.1 40 0 (by omega)]; exact hr.2.2 j hj⟩
  by_cases hf : pFt tx t 81 0 = (-6)
  · refine i_pos hf ?_
    generalize hgs : m1 35 0 = s
    have hP1 : RpH m1 0 s := hgs ▸ hS1.2.2.2.2
    have hle := pRun_le (tx := tx) (t := t) 81 0 0 s
    refine sim_actG (s := s) (s' := (pRun tx t 81 0 0 s).2) (v := nI (pRun tx t 81 0 0 s).1) (Z := fun m4 P => Mi 153 [.inr (34, 0)] m4 P) (Q := Q) hgs ?_ ?_ hS1 hQ
    · intro m2 hR2 hi2 hb2 k
      refine T_3 ?_
      intro m3 e3 m4 e4
      have o4 : ∀ c d, ¬ c = 32 → m4 c d = m2 c d := fun c d q => by rw [e4, up_of (Or.inl q), e3, up_of (Or.inl q)]
      have l4 : m4 32 0 1 = m2 32 0 1 := by rw [e4, up_o (by omega), e3, up_o (by omega)]
      have hc2 : Tc m2 tx t := ⟨hc1.1, by rw [hi2 32 (by omega)]; exact hc1.2.1, fun j hj => by rw [hi2 33 (by omega)]; exact hc1.2.2 j hj⟩
      have hk := K_74 (s := s) (Q := fun v5 m4 => Mi 153 [.inr (34, 0)] m4 (fun w m5 => Q v5 w m5)) hc2 (fun m5 h5 o5 l5 => k m5 h5 o5 l5) hf 81 0 0 0 m4 s 0 (by omega) (Nat.le_refl 0) (Nat.zero_le _) (RpH_same hR2 (fun c hc => o4 c 0 (by omega)) (fun c hc => o4 c 0 (by omega))) (fun c d _ q => o4 c d q) l4 (by rw [e4, up_e]) (by rw [e4, up_o (by omega), e3, up_e]; rfl) (by decide) hf rfl
      exact hk
    · intro m4 P hi4 h32 hp k
      have h34 : setS m4 s 34 0 = m1 34 0 := by rw [setS_o (by omega), hi4 34 (by omega) (by omega) (by omega)]
      have hr4 : Tr (setS m4 s) tx t := ⟨hr.1, by rw [h34]; exact hr1.2.1, fun j hj => by rw [setS_o (by omega), hi4 40 (by omega) (by omega) (by omega)]; exact hr1.2.2 j hj⟩
      refine T_153 (R_151 hr4 ?_)
      intro m5 k5
      refine i_pos hf ?_
      have hs5 : m5 35 0 = s := by rw [k5.1 35 0 (by omega), setS_e]
      have e5 : m5 = setS m5 s := by rw [← hs5, S_self]
      have r5 : m5 34 0 6 = 0 := by rw [k5.2 6 (by omega), h34]; exact hS1.2.2.2.1
      have p5 : pOk m5 := by
        have := Sim_hi hS1
        unfold pOk at this ⊢
        rw [k5.2 6 (by omega), k5.2 5 (by omega), h34]
        exact this
      rw [e5]
      refine R_98s p5 ?_
      intro m6 hrec
      intro m7 e7 m8 e8
      have hw6 := RecW_of hrec (by rw [setS_o (by omega)]; exact r5)
      obtain ⟨w1, w2, w3, w4⟩ := hw6
      have o8 : ∀ c d, ¬ c = 34 → m8 c d = setS m6 s c d := fun c d q => by rw [e8, up_of (Or.inl q), e7, up_of (Or.inl q)]
      have j8 : ∀ j, ¬ j = 6 → ¬ j = 9 → m8 34 0 j = setS m6 s 34 0 j := fun j q1 q2 => by rw [e8, up_o (by omega), e7, up_o (by omega)]
      have hT8 : Tr m8 tx t := by
        refine ⟨hr.1, ?_, fun j hj => ?_⟩
        · rw [j8 8 (by omega) (by omega), w3, setS_o (by omega), k5.2 8 (by omega), h34]; exact hr1.2.1
        · rw [o8 40 0 (by omega), w1 40 0 (by omega) (by omega), setS_o (by omega), k5.1 40 0 (by omega)]
          exact hr4.2.2 j hj
      refine R_153 (s := s) hT8 (by rw [e8, up_o (by omega), e7, up_e]; decide) ?_ 81 0 0 m8 s (by omega) (Nat.zero_le _) ⟨Rp_W hP1.1, hP1.2⟩ (by rw [o8 35 0 (by omega), setS_e]) ⟨fun _ _ _ _ => rfl, fun _ _ => rfl⟩ (by rw [e8, up_e]; rfl) hf rfl
      intro M hM kM
      have ef : a_up M 34 0 6 0 = setS (setS (a_up M 34 0 6 0) s) (pRun tx t 81 0 0 s).2 := by
        rw [S_S, ← hM]
        have : M 35 0 = (a_up M 34 0 6 0) 35 0 := (up_of (by omega)).symm
        rw [this, S_self]
      rw [ef]
      refine k _ (i_neg (nI_pos (by omega)) ⟨fun c d q1 q2 => ?_, ?_, ?_, ?_⟩)
      · by_cases q35 : c = 35 ∧ d = 0
        · obtain ⟨rfl, rfl⟩ := q35
          rw [setS_e, setS_e]
        · have q5 : ¬ c = 35 ∨ ¬ d = 0 := by
            by_cases q6 : c = 35
            · exact Or.inr (fun z => q35 ⟨q6, z⟩)
            · exact Or.inl q6
          rw [setS_o q5, up_of (Or.inl q2), kM.1 c d q2 q35, o8 c d q2, w1 c d q1 q2, setS_o q5, k5.1 c d q2]
      · rw [setS_o (by omega), up_e]
      · rw [setS_o (by omega), up_o (by omega), kM.2 8 (by omega), j8 8 (by omega) (by omega), w3, setS_o (by omega), k5.2 8 (by omega)]
      · intro c rows hR0
        rw [setS_e]
        have hR5 : HsR (setS m5 s) c rows := by
          obtain ⟨a1, a2, a3⟩ := hR0
          refine ⟨a1, ?_, fun i hi j hj => ?_⟩
          · rw [setS_o (by omega), k5.2 5 (by omega)]; exact a2
          · rw [setS_o (by omega), k5.1 36 0 (by omega)]; exact a3 i hi j hj
        have := w4 c rows hR5
        rw [setS_e] at this
        obtain ⟨a1, a2, a3⟩ := this
        refine ⟨a1, ?_, fun i hi j hj => ?_⟩
        · rw [setS_o (by omega), up_o (by omega), kM.2 5 (by omega), j8 5 (by omega) (by omega)]; exact a2
        · rw [setS_o (by omega), up_of (by omega), kM.1 36 0 (by omega) (by omega), o8 36 0 (by omega)]; exact a3 i hi j hj
  · refine i_neg hf (T_153 (R_151 hr1 ?_))
    intro m2 k2
    exact i_neg hf (hQ _ _ (Sim_read hS k1 k2))
end RUN
