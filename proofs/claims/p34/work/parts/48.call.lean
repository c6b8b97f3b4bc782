/-! a recorded call of the class, beside the law's rows -/
section CAL
variable {m : aM} {s s' : aS0} {Q : Int32 → aM → Prop} {x y : Int32}
def CL (m : aM) (s : aS0) : Prop := (∃ o c rows, HsC m o c rows) ∧ RpH m 0 s ∧ m 32 0 1 = 0
theorem CL_of {m' : aM} (h : CL m s) (hm : ∀ c, c < 34 ∨ 40 ≤ c → ∀ d, m' c d = m c d) : CL m' s := by
  obtain ⟨⟨o, c, rows, a1, a2, a3, a4, a5⟩, hR, ht⟩ := h
  refine ⟨⟨o, c, rows, a1, a2, ?_, ?_, fun i hi => RpH_same (a5 i hi) (fun c hc => hm c (by omega) _) (fun c hc => hm c (by omega) _)⟩, RpH_same hR (fun c hc => hm c (by omega) _) (fun c hc => hm c (by omega) _), ?_⟩
  · rw [hm 28 (by omega)]; exact a3
  · rw [hm 28 (by omega)]; exact a4
  · rw [hm 32 (by omega)]; exact ht
theorem CL_S (h : CL m s) : CL (setS m s') s := CL_of h (fun c hc d => by rw [S_o (by omega)])
theorem CL_U (h : CL (setS m s') s) : CL m s := CL_of h (fun c hc d => by rw [S_o (by omega)])
theorem CL_W (h : CL m s) : WF s := Rp_W h.2.1.1
/-- a look that writes the trial state alone -/
theorem CL_t {m' : aM} (h : CL m s) (hm : ∀ c d, ¬ (c < 27 ∧ d = 1) → m' c d = m c d) : CL m' s := by
  obtain ⟨⟨o, c, rows, a1, a2, a3, a4, a5⟩, hR, ht⟩ := h
  refine ⟨⟨o, c, rows, a1, a2, ?_, ?_, fun i hi => RpH_same (a5 i hi) (fun c hc => hm c _ (by omega)) (fun c hc => hm c _ (by omega))⟩, RpH_same hR (fun c hc => hm c _ (by omega)) (fun c hc => hm c _ (by omega)), ?_⟩
  · rw [hm 28 0 (by omega)]; exact a3
  · rw [hm 28 0 (by omega)]; exact a4
  · rw [hm 32 0 (by omega)]; exact ht
theorem call_act {A : aS0 → Int32 × aS0} {qa : Nat} {args : List aV} (hA : ActC A qa args) (hC : CL m s) (hQ : ∀ m', CL m' (A s).2 → (∀ c, 34 ≤ c → ∀ d, m' c d = m c d) → Q (A s).1 m') : Mv 27 [.inr (28, 0), .inr (0, 0)] m (fun m1 => Mi qa (.inr (0, 0) :: args) m1 (fun v3 m2 => Mi 91 [.inr (27, 0), .inl v3] m2 (fun v5 m4 => Q v5 m4))) := by
  obtain ⟨⟨o, c, rows, hH⟩, hR, ht⟩ := hC
  have lo := hH.1
  have lc := hH.2.1
  refine K_27 hH hR ?_
  intro m1 hH1 hR1 hN1 hF1
  refine hA m1 0 s _ hR1 ?_
  intro m2 hR2 hF2
  have hH2 : HsC m2 o c rows := HsC_Fr hH1 hF2 (fun i hi => by omega)
  have hN2 : RpH m2 (2 + (o + c) % 6) s := RpH_Fr hN1 hF2 (by omega)
  have k34 : ∀ c, 34 ≤ c → ∀ d, m2 c d = m c d := fun c hc d => (hF2 c d (Or.inl (by omega))).trans (hF1 c d (Or.inl (by omega)))
  have t2 : m2 32 0 1 = 0 := by rw [hF2 32 0 (Or.inl (by omega)), hF1 32 0 (Or.inl (by omega))]; exact ht
  refine K_91 hH2 hN2 (fun _ => hQ m2 ⟨⟨o, c, rows, hH2⟩, hR2, t2⟩ k34) ?_
  intro _ m3 o1 hH3 hF3
  refine hQ m3 ⟨⟨o1, _, _, hH3⟩, ?_, ?_⟩ ?_
  · exact RpH_same hR2 (fun c hc => hF3 c _ (by omega)) (fun c hc => hF3 c _ (by omega))
  · rw [hF3 32 0 (by omega)]; exact t2
  · exact fun c hc d => (hF3 c d (by omega)).trans (k34 c hc d)
theorem call_S {A : aS0 → Int32 × aS0} {qa : Nat} {args : List aV} (hA : ActC A qa args) (hC : CL m s) (hQ : ∀ m', CL m' (A s).2 → Q (A s).1 (setS m' s')) : Mv 27 [.inr (28, 0), .inr (0, 0)] (setS m s') (fun m1 => Mi qa (.inr (0, 0) :: args) m1 (fun v3 m2 => Mi 91 [.inr (27, 0), .inl v3] m2 (fun v5 m4 => Q v5 m4))) :=
  call_act hA (CL_S hC) (fun m' h' k => by
    have e : m' = setS m' s' := S_eq (fun c h1 _ => funext (fun d => k c h1 d))
    rw [e]
    exact hQ m' h')
theorem X_60 {ch p : Int32} (hC : CL m s) (hQ : ∀ m', CL m' (aAddS x y ch p s).2 → Q (aAddS x y ch p s).1 (setS m' s')) : Mi 60 [.inr (27, 0), .inl x, .inl y, .inl ch, .inl p] (setS m s') Q := T_60 (call_S C_31 hC hQ)
theorem X_61 {r ch f t : Int32} (hC : CL m s) (hQ : ∀ m', CL m' (aAddE x y r ch f t s).2 → Q (aAddE x y r ch f t s).1 (setS m' s')) : Mi 61 [.inr (27, 0), .inl x, .inl y, .inl r, .inl ch, .inl f, .inl t] (setS m s') Q := T_61 (call_S C_32 hC hQ)
theorem X_62 {p : Int32} (hC : CL m s) (hQ : ∀ m', CL m' (aAddD x y p s).2 → Q (aAddD x y p s).1 (setS m' s')) : Mi 62 [.inr (27, 0), .inl x, .inl y, .inl p] (setS m s') Q := T_62 (call_S C_33 hC hQ)
theorem X_63 {v : Int32} (hC : CL m s) (hQ : ∀ m', CL m' (aSet x v s).2 → Q (aSet x v s).1 (setS m' s')) : Mi 63 [.inr (27, 0), .inl x, .inl v] (setS m s') Q := T_63 (call_S C_34 hC hQ)
theorem X_64 (hC : CL m s) (hQ : ∀ m', CL m' (aTurn x 1 s).2 → Q (aTurn x 1 s).1 (setS m' s')) : Mi 64 [.inr (27, 0), .inl x] (setS m s') Q := T_64 (call_S (C_35 (Or.inr rfl)) hC hQ)
theorem X_65 (hC : CL m s) (hQ : ∀ m', CL m' (aTurn x 0 s).2 → Q (aTurn x 0 s).1 (setS m' s')) : Mi 65 [.inr (27, 0), .inl x] (setS m s') Q := T_65 (call_S (C_35 (Or.inl rfl)) hC hQ)
theorem X_66 (hC : CL m s) (hQ : ∀ m', CL m' (aCanc x s).2 → Q (aCanc x s).1 (setS m' s')) : Mi 66 [.inr (27, 0), .inl x] (setS m s') Q := T_66 (call_S C_36 hC hQ)
theorem X_67 {p h : Int32} (hC : CL m s) (hQ : ∀ m', CL m' (aLease x p h s).2 → Q (aLease x p h s).1 (setS m' s')) : Mi 67 [.inr (27, 0), .inl x, .inl p, .inl h] (setS m s') Q := T_67 (call_S C_37 hC hQ)
theorem X_68 {h : Int32} (hC : CL m s) (hQ : ∀ m', CL m' (aRenew x h s).2 → Q (aRenew x h s).1 (setS m' s')) : Mi 68 [.inr (27, 0), .inl x, .inl h] (setS m s') Q := T_68 (call_S C_38 hC hQ)
theorem X_69 (hC : CL m s) (hQ : ∀ m', CL m' (aBack x s).2 → Q (aBack x s).1 (setS m' s')) : Mi 69 [.inr (27, 0), .inl x] (setS m s') Q := T_69 (call_S C_39 hC hQ)
theorem X_70 (hC : CL m s) (hQ : ∀ m', CL m' (aPass x s).2 → Q (aPass x s).1 (setS m' s')) : Mi 70 [.inr (27, 0), .inl x] (setS m s') Q := T_70 (call_S C_40 hC hQ)
end CAL
