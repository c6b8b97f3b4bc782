/-! the law's loop; by program (wip/whole/gen49.py) -/
theorem Mi_keep {q : Nat} {as : List aV} {m : aM} {P : Int32 → aM → Prop} (h : Mi q as m P) : Mi q as m (fun v m1 => (∀ c, 41 ≤ c → m1 c = m c) ∧ P v m1) := by
  obtain ⟨n, r, m', h1, h2⟩ := h
  refine ⟨n, r, m', h1, ?_⟩
  have hk := a_run_keeps n h1
  unfold qI at h2 ⊢
  split at h2
  · exact ⟨hk, h2⟩
  · exact h2.elim
theorem law_call {qa qr : Nat} {aC aR : List aV} {m : aM} (hE : Same qa aC qr aR) (hS : Sim m) {X : Int32 → aM → Prop} (hX : ∀ v m8, (∀ c, 41 ≤ c → m8 c = m c) → (∀ {P : Int32 → aM → Prop}, (∀ m2, Sim m2 → (∀ c, 41 ≤ c → m2 c = m c) → P v m2) → Mi qr aR m8 P) → X v m8) : Mi qa aC m X := by
  refine Mi_mono (Mi_keep (hE m (fun v w m2 => v = w ∧ Sim m2) hS (fun v m' hS' => ⟨rfl, hS'⟩))) ?_
  intro v m8 h8
  obtain ⟨k8, h8⟩ := h8
  refine hX v m8 k8 ?_
  intro P hP
  refine Mi_mono (Mi_keep h8) ?_
  intro w m2 h2
  obtain ⟨k2, h3, s2⟩ := h2
  have := hP m2 s2 (fun c hc => (k2 c hc).trans (k8 c hc))
  rwa [h3] at this
theorem a_ln_46 (m : aM) : a_ln m 46 = (m 47 0 0).toNatClampNeg := rfl
theorem law_len {i L : Nat} (hi : 7 * i ≤ L) (lL : L ≤ 3584) : (nI L - 7 < nI (7 * i)) ↔ L < 7 * i + 7 := by
  rw [show (7 : Int32) = nI 7 from rfl, Int32.lt_iff_toInt_lt, pk_sub_toInt (by omega) (by omega), nI_toInt (by omega)]
  omega
theorem i_mono2 {c : Prop} [Decidable c] {A B : Prop} (h1 : c → A) (h2 : ¬ c → B) : if c then A else B := by
  by_cases hc : c
  · rw [if_pos hc]; exact h1 hc
  · rw [if_neg hc]; exact h2 hc
set_option maxHeartbeats 4000000 in
theorem law_loop {Q : Int32 → aM → Prop} {m0 : aM} {L : Nat} (hL : (m0 47 0 0).toNatClampNeg = L) (lL : L ≤ 3584) (hQ : ∀ m, Q 1 m) : ∀ n i m, L < 7 * i + 7 * n → 7 * i ≤ L → Sim m → (∀ c, 41 ≤ c → m c = m0 c) → H_175_18 (nI (7 * i)) m Q := by
  intro n
  induction n with
  | zero => intro i m hn hi; exact absurd hn (by omega)
  | succ n ih =>
    intro i m hn hi hS hk
    have eL : ∀ m1 : aM, (∀ c, 41 ≤ c → m1 c = m c) → a_ln m1 46 = L := fun m1 h1 => by rw [a_ln_46, h1 47 (by omega), hk 47 (by omega), hL]
    have hln := eL m (fun _ _ => rfl)
    refine T_175_18 ?_
    rw [hln]
    by_cases hend : L < 7 * i + 7
    · exact i_pos ((law_len hi lL).mpr hend) (hQ m)
    refine i_neg (fun z => hend ((law_len hi lL).mp z)) ?_
    have g : ∀ k, k < 7 → a_in (nI (7 * i) + nI k) L = true := fun k hk => a_in_I (nI_add _ _) (by omega) (by omega)
    have g1 : a_in (nI (7 * i) + 1) L = true := g 1 (by omega)
    have g2 : a_in (nI (7 * i) + 2) L = true := g 2 (by omega)
    have g3 : a_in (nI (7 * i) + 3) L = true := g 3 (by omega)
    have g4 : a_in (nI (7 * i) + 4) L = true := g 4 (by omega)
    have g5 : a_in (nI (7 * i) + 5) L = true := g 5 (by omega)
    have g6 : a_in (nI (7 * i) + 6) L = true := g 6 (by omega)
    have nx : ∀ m2, Sim m2 → (∀ c, 41 ≤ c → m2 c = m c) → H_175_18 (nI (7 * i) + 7) m2 Q := by
      intro m2 h2 k2
      rw [show nI (7 * i) + 7 = nI (7 * (i + 1)) by rw [show (7 : Int32) = nI 7 from rfl, nI_add, Nat.mul_add]]
      exact ih (i + 1) m2 (by omega) (by omega) h2 (fun c hc => (k2 c hc).trans (hk c hc))
    refine ⟨inK (by omega) (by omega), ?_⟩
    refine i_mono2 (fun _ => ?_) (fun _ => ?_)
    · refine ⟨g1, g2, g3, g4, law_call E_add_S hS ?_⟩
      intro v m8 k8 call
      rw [eL m8 k8, k8 46 (by omega)]
      exact ⟨g1, g2, g3, g4, call (fun m2 s2 k2 => i_pos rfl (nx m2 s2 k2))⟩
    refine i_mono2 (fun _ => ?_) (fun _ => ?_)
    · refine ⟨g1, g2, g3, g4, g5, g6, law_call E_add_E hS ?_⟩
      intro v m8 k8 call
      rw [eL m8 k8, k8 46 (by omega)]
      exact ⟨g1, g2, g3, g4, g5, g6, call (fun m2 s2 k2 => i_pos rfl (nx m2 s2 k2))⟩
    refine i_mono2 (fun _ => ?_) (fun _ => ?_)
    · refine ⟨g1, g2, g3, law_call E_add_D hS ?_⟩
      intro v m8 k8 call
      rw [eL m8 k8, k8 46 (by omega)]
      exact ⟨g1, g2, g3, call (fun m2 s2 k2 => i_pos rfl (nx m2 s2 k2))⟩
    refine i_mono2 (fun _ => ?_) (fun _ => ?_)
    · refine ⟨g1, g2, law_call E_set hS ?_⟩
      intro v m8 k8 call
      rw [eL m8 k8, k8 46 (by omega)]
      exact ⟨g1, g2, call (fun m2 s2 k2 => i_pos rfl (nx m2 s2 k2))⟩
    refine i_mono2 (fun _ => ?_) (fun _ => ?_)
    · refine ⟨g1, law_call E_wake hS ?_⟩
      intro v m8 k8 call
      rw [eL m8 k8, k8 46 (by omega)]
      exact ⟨g1, call (fun m2 s2 k2 => i_pos rfl (nx m2 s2 k2))⟩
    refine i_mono2 (fun _ => ?_) (fun _ => ?_)
    · refine ⟨g1, law_call E_sleep hS ?_⟩
      intro v m8 k8 call
      rw [eL m8 k8, k8 46 (by omega)]
      exact ⟨g1, call (fun m2 s2 k2 => i_pos rfl (nx m2 s2 k2))⟩
    refine i_mono2 (fun _ => ?_) (fun _ => ?_)
    · refine ⟨g1, law_call E_cancel hS ?_⟩
      intro v m8 k8 call
      rw [eL m8 k8, k8 46 (by omega)]
      exact ⟨g1, call (fun m2 s2 k2 => i_pos rfl (nx m2 s2 k2))⟩
    refine i_mono2 (fun _ => ?_) (fun _ => ?_)
    · refine ⟨g1, g2, g3, law_call E_lease hS ?_⟩
      intro v m8 k8 call
      rw [eL m8 k8, k8 46 (by omega)]
      exact ⟨g1, g2, g3, call (fun m2 s2 k2 => i_pos rfl (nx m2 s2 k2))⟩
    refine i_mono2 (fun _ => ?_) (fun _ => ?_)
    · refine ⟨g1, g2, law_call E_renew hS ?_⟩
      intro v m8 k8 call
      rw [eL m8 k8, k8 46 (by omega)]
      exact ⟨g1, g2, call (fun m2 s2 k2 => i_pos rfl (nx m2 s2 k2))⟩
    refine i_mono2 (fun _ => ?_) (fun _ => ?_)
    · refine ⟨g1, law_call E_back hS ?_⟩
      intro v m8 k8 call
      rw [eL m8 k8, k8 46 (by omega)]
      exact ⟨g1, call (fun m2 s2 k2 => i_pos rfl (nx m2 s2 k2))⟩
    refine i_mono2 (fun _ => ?_) (fun _ => ?_)
    · refine ⟨g1, law_call E_pass hS ?_⟩
      intro v m8 k8 call
      rw [eL m8 k8, k8 46 (by omega)]
      exact ⟨g1, call (fun m2 s2 k2 => i_pos rfl (nx m2 s2 k2))⟩
    refine i_mono2 (fun _ => ?_) (fun _ => ?_)
    · refine ⟨g1, law_call E_append hS ?_⟩
      intro v m8 k8 call
      rw [eL m8 k8, k8 46 (by omega)]
      exact ⟨g1, call (fun m2 s2 k2 => i_pos rfl (nx m2 s2 k2))⟩
    refine i_mono2 (fun _ => ?_) (fun _ => ?_)
    · refine law_call E_clear hS ?_
      intro v m8 k8 call
      exact call (fun m2 s2 k2 => i_pos rfl (nx m2 s2 k2))
    refine i_mono2 (fun _ => ?_) (fun _ => ?_)
    · refine law_call E_fault hS ?_
      intro v m8 k8 call
      exact call (fun m2 s2 k2 => i_pos rfl (nx m2 s2 k2))
    refine i_mono2 (fun _ => ?_) (fun _ => ?_)
    · refine law_call E_run hS ?_
      intro v m8 k8 call
      exact call (fun m2 s2 k2 => i_pos rfl (nx m2 s2 k2))
    refine i_mono2 (fun _ => ?_) (fun _ => ?_)
    · refine law_call E_undo hS ?_
      intro v m8 k8 call
      exact call (fun m2 s2 k2 => i_pos rfl (nx m2 s2 k2))
    refine i_mono2 (fun _ => ?_) (fun _ => ?_)
    · refine ⟨g1, law_call E_save hS ?_⟩
      intro v m8 k8 call
      rw [eL m8 k8, k8 46 (by omega)]
      exact ⟨g1, call (fun m2 s2 k2 => i_pos rfl (nx m2 s2 k2))⟩
    refine i_mono2 (fun _ => ?_) (fun _ => ?_)
    · refine ⟨g1, law_call E_restore hS ?_⟩
      intro v m8 k8 call
      rw [eL m8 k8, k8 46 (by omega)]
      exact ⟨g1, call (fun m2 s2 k2 => i_pos rfl (nx m2 s2 k2))⟩
    refine i_mono2 (fun _ => ?_) (fun _ => ?_)
    · refine ⟨g1, g2, law_call E_station hS ?_⟩
      intro v m8 k8 call
      rw [eL m8 k8, k8 46 (by omega)]
      exact ⟨g1, g2, call (fun m2 s2 k2 => i_pos rfl (nx m2 s2 k2))⟩
    refine i_mono2 (fun _ => ?_) (fun _ => ?_)
    · refine ⟨g1, g2, law_call E_event hS ?_⟩
      intro v m8 k8 call
      rw [eL m8 k8, k8 46 (by omega)]
      exact ⟨g1, g2, call (fun m2 s2 k2 => i_pos rfl (nx m2 s2 k2))⟩
    refine i_mono2 (fun _ => ?_) (fun _ => ?_)
    · refine ⟨g1, g2, law_call E_device hS ?_⟩
      intro v m8 k8 call
      rw [eL m8 k8, k8 46 (by omega)]
      exact ⟨g1, g2, call (fun m2 s2 k2 => i_pos rfl (nx m2 s2 k2))⟩
    refine i_mono2 (fun _ => ?_) (fun _ => ?_)
    · refine ⟨g1, g2, g3, law_call E_power hS ?_⟩
      intro v m8 k8 call
      rw [eL m8 k8, k8 46 (by omega)]
      exact ⟨g1, g2, g3, call (fun m2 s2 k2 => i_pos rfl (nx m2 s2 k2))⟩
    refine i_mono2 (fun _ => ?_) (fun _ => ?_)
    · refine ⟨g1, g2, law_call E_offer hS ?_⟩
      intro v m8 k8 call
      rw [eL m8 k8, k8 46 (by omega)]
      exact ⟨g1, g2, call (fun m2 s2 k2 => i_pos rfl (nx m2 s2 k2))⟩
    refine i_mono2 (fun _ => ?_) (fun _ => ?_)
    · refine ⟨g1, law_call E_next hS ?_⟩
      intro v m8 k8 call
      rw [eL m8 k8, k8 46 (by omega)]
      exact ⟨g1, call (fun m2 s2 k2 => i_pos rfl (nx m2 s2 k2))⟩
    refine i_mono2 (fun _ => ?_) (fun _ => ?_)
    · refine ⟨g1, law_call E_leases hS ?_⟩
      intro v m8 k8 call
      rw [eL m8 k8, k8 46 (by omega)]
      exact ⟨g1, call (fun m2 s2 k2 => i_pos rfl (nx m2 s2 k2))⟩
    refine i_mono2 (fun _ => ?_) (fun _ => ?_)
    · refine ⟨g1, law_call E_total hS ?_⟩
      intro v m8 k8 call
      rw [eL m8 k8, k8 46 (by omega)]
      exact ⟨g1, call (fun m2 s2 k2 => i_pos rfl (nx m2 s2 k2))⟩
    refine i_mono2 (fun _ => ?_) (fun _ => ?_)
    · refine ⟨g1, g2, law_call E_vacant hS ?_⟩
      intro v m8 k8 call
      rw [eL m8 k8, k8 46 (by omega)]
      exact ⟨g1, g2, call (fun m2 s2 k2 => i_pos rfl (nx m2 s2 k2))⟩
    refine i_mono2 (fun _ => ?_) (fun _ => ?_)
    · refine ⟨g1, g2, g3, g4, law_call E_from hS ?_⟩
      intro v m8 k8 call
      rw [eL m8 k8, k8 46 (by omega)]
      exact ⟨g1, g2, g3, g4, call (fun m2 s2 k2 => i_pos rfl (nx m2 s2 k2))⟩
    refine i_mono2 (fun _ => ?_) (fun _ => ?_)
    · refine ⟨g1, law_call E_strike hS ?_⟩
      intro v m8 k8 call
      rw [eL m8 k8, k8 46 (by omega)]
      exact ⟨g1, call (fun m2 s2 k2 => i_pos rfl (nx m2 s2 k2))⟩
    refine i_mono2 (fun _ => ?_) (fun _ => ?_)
    · refine ⟨g1, g2, law_call E_chanIn hS ?_⟩
      intro v m8 k8 call
      rw [eL m8 k8, k8 46 (by omega)]
      exact ⟨g1, g2, call (fun m2 s2 k2 => i_pos rfl (nx m2 s2 k2))⟩
    refine i_mono2 (fun _ => ?_) (fun _ => ?_)
    · refine law_call E_clearIn hS ?_
      intro v m8 k8 call
      exact call (fun m2 s2 k2 => i_pos rfl (nx m2 s2 k2))
    exact nx m hS (fun _ _ => rfl)
