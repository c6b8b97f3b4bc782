/-! what ties both sides; a recorded act -/
def Sl (m : aM) : Prop := ∀ t, t < 2 → m 31 0 t = m 38 0 t ∧ (m 31 0 t = 0 ∨ (m 31 0 t = 1 ∧ RpH m (8 + t) (fun j => m 37 0 (264 * t + j))))
def Tx (m : aM) : Prop := ∃ t, t ≤ 80 ∧ m 32 0 1 = nI t ∧ m 34 0 8 = nI t ∧ ∀ j, j < t → m 33 0 j = m 40 0 j
def Hi (m : aM) : Prop := ∃ o c rows, HsC m o c rows ∧ HsR m c rows
def Sim (m : aM) : Prop := Hi m ∧ Sl m ∧ Tx m ∧ m 34 0 6 = 0 ∧ RpH m 0 (m 35 0)
theorem Sl_of {m m' : aM} (h : Sl m) (h1 : m' 31 0 = m 31 0) (h2 : m' 38 0 = m 38 0) (h3 : m' 37 0 = m 37 0) (h4 : ∀ c, c < 27 → m' c 8 = m c 8 ∧ m' c 9 = m c 9) (h5 : ∀ c, 41 ≤ c → m' c 0 = m c 0) : Sl m' := by
  intro t ht
  obtain ⟨q1, q2⟩ := h t ht
  rw [h1, h2, h3]
  refine ⟨q1, q2.elim Or.inl (fun z => Or.inr ⟨z.1, RpH_same z.2 (fun c hc => ?_) h5⟩)⟩
  rcases (show t = 0 ∨ t = 1 by omega) with rfl | rfl
  · exact (h4 c hc).1
  · exact (h4 c hc).2
theorem Tx_of {m m' : aM} (h : Tx m) (h1 : m' 32 0 1 = m 32 0 1) (h2 : m' 34 0 8 = m 34 0 8) (h3 : m' 33 0 = m 33 0) (h4 : m' 40 0 = m 40 0) : Tx m' := by
  unfold Tx
  rw [h1, h2, h3, h4]
  exact h
/-- a call on both sides, with the same answer -/
def Same (qa : Nat) (aC : List aV) (qr : Nat) (aR : List aV) : Prop := ∀ (m : aM) (Q : Int32 → Int32 → aM → Prop), Sim m → (∀ v m', Sim m' → Q v v m') → Mi qa aC m (fun v m1 => Mi qr aR m1 (fun w m2 => Q v w m2))
/-- the class's act on a state -/
def ActC (A : aS0 → Int32 × aS0) (qa : Nat) (args : List aV) : Prop := ∀ (m : aM) (b : Nat) (s : aS0) (Q : Int32 → aM → Prop), RpH m b s → (∀ m', RpH m' b (A s).2 → Fr b m m' → Q (A s).1 m') → Mi qa (.inr (0, b) :: args) m Q
/-- the reference's act -/
def ActR (A : aS0 → Int32 × aS0) (qr : Nat) (args : List aV) : Prop := ∀ (m : aM) (s : aS0) (Q : Int32 → aM → Prop), WF s → rg (s 0) 9999 → pOk m → (∀ m1, (if (A s).1 < 0 then m1 = setS m s else Rec (setS m s) m1) → Q (A s).1 (setS m1 (A s).2)) → Mi qr (.inr (34, 0) :: args) (setS m s) Q
theorem setS_o {m : aM} {s : aS0} {c b : Nat} (h : ¬ c = 35 ∨ ¬ b = 0) : setS m s c b = m c b := by
  funext j
  unfold setS
  rw [if_neg (by omega)]
theorem setS_e {m : aM} {s : aS0} : setS m s 35 0 = s := by
  funext j
  exact S_s
theorem Sim_hi {m : aM} (h : Sim m) : pOk m := by
  obtain ⟨⟨o, c, rows, hC, hR⟩, -⟩ := h
  exact fun _ => ⟨c, hR.1, hR.2.1⟩
/-- what a recorded call leaves of the reference's memory -/
def RecW (m m1 : aM) : Prop := (∀ c d, ¬ c = 36 → ¬ c = 34 → m1 c d = m c d) ∧ m1 34 0 6 = 0 ∧ m1 34 0 8 = m 34 0 8 ∧ ∀ c rows, HsR m c rows → HsR m1 (pushN c) (pushR c rows (m 35 0))
theorem RecW_of {m m1 : aM} (h : Rec m m1) (h6 : m 34 0 6 = 0) : RecW m m1 := by
  rcases h with ⟨z, -⟩ | ⟨-, r1, r2, r3⟩
  · exact absurd h6 z
  · exact ⟨r1, (r2 6 (by omega)).trans h6, r2 8 (by omega), r3⟩
/-- a recorded call: X is what the class does behind the note, Z what the reference does -/
theorem sim_actG {s s' : aS0} {v : Int32} {m : aM} {X : aM → Prop} {Z : aM → (Int32 → aM → Prop) → Prop} {Q : Int32 → Int32 → aM → Prop} (hs0 : m 35 0 = s) (hX : ∀ m1, RpH m1 0 s → (∀ c, 27 ≤ c → ∀ d, m1 c d = m c d) → (∀ b, (b = 8 ∨ b = 9) → ∀ c, m1 c b = m c b) → (∀ m2, RpH m2 0 s' → (∀ c d, (27 ≤ c ∨ ¬ d = 0) → ¬ c = 32 → m2 c d = m1 c d) → m2 32 0 1 = m1 32 0 1 → Mi 91 [.inr (27, 0), .inl v] m2 (fun v5 m4 => Z m4 (fun w m5 => Q v5 w m5))) → X m1) (hZ : ∀ (m4 : aM) (P : Int32 → aM → Prop), (∀ c, 27 ≤ c → ¬ c = 28 → ¬ c = 32 → ∀ d, m4 c d = m c d) → m4 32 0 1 = m 32 0 1 → pOk m4 → (∀ m', (if v < 0 then m' = setS m4 s else RecW (setS m4 s) m') → P v (setS m' s')) → Z (setS m4 s) P) (hS : Sim m) (hQ : ∀ v m', Sim m' → Q v v m') : Mv 27 [.inr (28, 0), .inr (0, 0)] m X := by
  have hp := Sim_hi hS
  obtain ⟨⟨o, c, rows, hC, hR⟩, hSl, hTx, h6, hP⟩ := hS
  have lc := hC.2.1
  have lo := hC.1
  refine K_27 hC hP ?_
  intro m1 hC1 hP1 hN1 hF1
  refine hX m1 (hs0 ▸ hP1) (fun c hc d => hF1 c d (Or.inl hc)) (fun b hb c => hF1 c b (Or.inr (by omega))) ?_
  intro m2 hP2 hF2 h32
  have hC2 : HsC m2 o c rows := by
    obtain ⟨a1, a2, a3, a4, a5⟩ := hC1
    exact ⟨a1, a2, by rw [hF2 28 0 (by omega) (by omega)]; exact a3, by rw [hF2 28 0 (by omega) (by omega)]; exact a4, fun i hi => RpH_same (a5 i hi) (fun c hc => hF2 c _ (by omega) (by omega)) (fun c hc => hF2 c _ (by omega) (by omega))⟩
  have hN2 : RpH m2 (2 + (o + c) % 6) (m 35 0) := RpH_same hN1 (fun c hc => hF2 c _ (by omega) (by omega)) (fun c hc => hF2 c _ (by omega) (by omega))
  have hs : m 35 0 = s := hs0
  rw [hs] at hP hP1 hN1 hN2
  have hi2 : ∀ c, 27 ≤ c → ¬ c = 32 → ∀ d, m2 c d = m c d := fun c hc hn d => (hF2 c d (Or.inl hc) hn).trans (hF1 c d (Or.inl hc))
  have h32' : m2 32 0 1 = m 32 0 1 := h32.trans (by rw [hF1 32 0 (Or.inl (by omega))])
  have hb2 : ∀ b, (b = 8 ∨ b = 9) → ∀ c, c < 27 → m2 c b = m c b := fun b hb c hc => (hF2 c b (by omega) (by omega)).trans (hF1 c b (Or.inr (by omega)))
  have hs2 : m2 35 0 = s := by rw [hi2 35 (by omega) (by omega)]; exact hs
  refine K_91 hC2 hN2 ?_ ?_
  · intro hv
    rw [← S_self m2, hs2]
    refine hZ m2 _ (fun c hc _ hn d => hi2 c hc hn d) h32' ?_ ?_
    · intro z
      rw [hi2 34 (by omega) (by omega)]
      exact hp h6
    · intro m3 e3
      rw [if_pos hv] at e3
      subst e3
      rw [S_S]
      refine hQ _ _ ⟨⟨o, c, rows, ?_, ?_⟩, ?_, ?_, ?_, ?_⟩
      · obtain ⟨a1, a2, a3, a4, a5⟩ := hC2
        exact ⟨a1, a2, by rw [setS_o (by omega)]; exact a3, by rw [setS_o (by omega)]; exact a4, fun i hi => RpH_same (a5 i hi) (fun c hc => setS_o (by omega)) (fun c hc => setS_o (by omega))⟩
      · obtain ⟨a1, a2, a3⟩ := hR
        refine ⟨a1, by rw [setS_o (by omega), hi2 34 (by omega) (by omega)]; exact a2, fun i hi j hj => ?_⟩
        rw [setS_o (by omega), hi2 36 (by omega) (by omega)]
        exact a3 i hi j hj
      · exact Sl_of hSl (by rw [setS_o (by omega), hi2 31 (by omega) (by omega)]) (by rw [setS_o (by omega), hi2 38 (by omega) (by omega)]) (by rw [setS_o (by omega), hi2 37 (by omega) (by omega)]) (fun c hc => ⟨by rw [setS_o (by omega), hb2 8 (by omega) c hc], by rw [setS_o (by omega), hb2 9 (by omega) c hc]⟩) (fun c hc => by rw [setS_o (by omega), hi2 c (by omega) (by omega)])
      · exact Tx_of hTx (by rw [setS_o (by omega)]; exact h32') (by rw [setS_o (by omega), hi2 34 (by omega) (by omega)]) (by rw [setS_o (by omega), hi2 33 (by omega) (by omega)]) (by rw [setS_o (by omega), hi2 40 (by omega) (by omega)])
      · rw [setS_o (by omega), hi2 34 (by omega) (by omega)]; exact h6
      · rw [setS_e]
        exact RpH_same hP2 (fun c hc => setS_o (by omega)) (fun c hc => setS_o (by omega))
  · intro hv m3 o1 hC3 hF3
    have hi3 : ∀ c, 27 ≤ c → ¬ c = 28 → ¬ c = 32 → ∀ d, m3 c d = m c d := fun c hc h28 hn d => (hF3 c d h28).trans (hi2 c hc hn d)
    have h323 : m3 32 0 1 = m 32 0 1 := by rw [hF3 32 0 (by omega)]; exact h32'
    have hs3 : m3 35 0 = s := by rw [hi3 35 (by omega) (by omega) (by omega)]; exact hs
    rw [← S_self m3, hs3]
    refine hZ m3 _ hi3 h323 ?_ ?_
    · intro z
      rw [hi3 34 (by omega) (by omega) (by omega)]
      exact hp h6
    · intro m4 e4
      rw [if_neg hv] at e4
      obtain ⟨r1, r26, r28, r3⟩ := e4
      have hi4 : ∀ c, 27 ≤ c → ¬ c = 28 → ¬ c = 32 → ¬ c = 34 → ¬ c = 35 → ¬ c = 36 → ∀ d, setS m4 s' c d = m c d := by
        intro c hc a1 a0 a2 a3 a4 d
        rw [setS_o (by omega), r1 c d a4 a2, setS_o (by omega), hi3 c hc a1 a0]
      have h324 : setS m4 s' 32 0 1 = m 32 0 1 := by rw [setS_o (by omega), r1 32 0 (by omega) (by omega), setS_o (by omega)]; exact h323
      have lo4 : ∀ c, c < 27 → ∀ d, setS m4 s' c d = m3 c d := by
        intro c hc d
        rw [setS_o (by omega), r1 c d (by omega) (by omega), setS_o (by omega)]
      have lo2 : ∀ c, c < 27 → ∀ d, setS m4 s' c d = m2 c d := fun c hc d => (lo4 c hc d).trans (hF3 c d (by omega))
      refine hQ _ _ ⟨⟨o1, pushN c, pushR c rows s, ?_, ?_⟩, ?_, ?_, ?_, ?_⟩
      · obtain ⟨a1, a2, a3, a4, a5⟩ := hC3
        have e28 : setS m4 s' 28 0 = m3 28 0 := by rw [setS_o (by omega), r1 28 0 (by omega) (by omega), setS_o (by omega)]
        exact ⟨a1, a2, by rw [e28]; exact a3, by rw [e28]; exact a4, fun i hi => RpH_same (a5 i hi) (fun c hc => lo4 c hc _) (fun c hc => by rw [hi4 c (by omega) (by omega) (by omega) (by omega) (by omega) (by omega), hi3 c (by omega) (by omega) (by omega)])⟩
      · have hRm : HsR (setS m3 s) c rows := by
          obtain ⟨a1, a2, a3⟩ := hR
          refine ⟨a1, by rw [setS_o (by omega), hi3 34 (by omega) (by omega) (by omega)]; exact a2, fun i hi j hj => ?_⟩
          rw [setS_o (by omega), hi3 36 (by omega) (by omega) (by omega)]
          exact a3 i hi j hj
        have := r3 c rows hRm
        rw [setS_e] at this
        obtain ⟨a1, a2, a3⟩ := this
        exact ⟨a1, by rw [setS_o (by omega)]; exact a2, fun i hi j hj => by rw [setS_o (by omega)]; exact a3 i hi j hj⟩
      · exact Sl_of hSl (hi4 31 (by omega) (by omega) (by omega) (by omega) (by omega) (by omega) 0) (hi4 38 (by omega) (by omega) (by omega) (by omega) (by omega) (by omega) 0) (hi4 37 (by omega) (by omega) (by omega) (by omega) (by omega) (by omega) 0) (fun c hc => ⟨(lo2 c hc 8).trans (hb2 8 (by omega) c hc), (lo2 c hc 9).trans (hb2 9 (by omega) c hc)⟩) (fun c hc => hi4 c (by omega) (by omega) (by omega) (by omega) (by omega) (by omega) 0)
      · exact Tx_of hTx (h324) (by rw [setS_o (by omega), r28, setS_o (by omega), hi3 34 (by omega) (by omega) (by omega)]) (hi4 33 (by omega) (by omega) (by omega) (by omega) (by omega) (by omega) 0) (hi4 40 (by omega) (by omega) (by omega) (by omega) (by omega) (by omega) 0)
      · rw [setS_o (by omega)]; exact r26
      · rw [setS_e]
        exact RpH_same hP2 (fun c hc => lo2 c hc 0) (fun c hc => by rw [hi4 c (by omega) (by omega) (by omega) (by omega) (by omega) (by omega), hi2 c (by omega) (by omega)])
theorem sim_act {A : aS0 → Int32 × aS0} {qa qr : Nat} {args args2 : List aV} (hA : ActC A qa args) (hB : ActR A qr args2) {m : aM} {Q : Int32 → Int32 → aM → Prop} (hS : Sim m) (hQ : ∀ v m', Sim m' → Q v v m') : Mv 27 [.inr (28, 0), .inr (0, 0)] m (fun m1 => Mi qa (.inr (0, 0) :: args) m1 (fun v3 m2 => Mi 91 [.inr (27, 0), .inl v3] m2 (fun v5 m4 => Mi qr (.inr (34, 0) :: args2) m4 (fun w m5 => Q v5 w m5)))) :=
  sim_actG (s := m 35 0) (s' := (A (m 35 0)).2) (v := (A (m 35 0)).1) (Z := fun m4 P => Mi qr (.inr (34, 0) :: args2) m4 P) rfl (fun m1 h1 _ _ k => hA m1 0 _ _ h1 (fun m' h' hF => k m' h' (fun c d q _ => hF c d q) (by rw [hF 32 0 (Or.inl (by omega))]))) (fun m4 P h4 _ hp k => hB m4 _ P (Rp_W hS.2.2.2.2.1) hS.2.2.2.2.2 hp (fun m' h' => k m' (i_mono h' (fun _ h => h) (fun _ h => RecW_of h (by rw [setS_o (by omega), h4 34 (by omega) (by omega) (by omega)]; exact hS.2.2.2.1))))) hS hQ
