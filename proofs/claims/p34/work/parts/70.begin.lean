/-! the memory at the start; the cells that the constructors and the law made are the abstract machine's -/
def b_v26 : Nat → Int32 := upd (upd (upd (fun _ => 0) 0 40) 1 4) 2 3
def b_s0 : Nat → Int32 := upd (upd (upd (fun _ => 0) 5 40) 6 4) 7 3
def b_row (vs : List Int32) : Nat → Int32 := fun j => vs.getD j 0
def b_m0 (L : Nat) (xs : Nat → Int32) : aM := fun c _ => if c = 26 then b_v26 else if c = 32 then upd (fun _ => 0) 3 (-6) else if c = 41 then b_row [4, 9, 16, 26, 40] else if c = 42 then b_row [1, 3, 6, 10] else if c = 43 then b_row [40, 4, 3] else if c = 44 then b_row [0, 1, 0] else if c = 45 then b_row [100, 12, 20] else if c = 46 then xs else if c = 47 then (fun _ => nI L) else (fun _ => 0)
theorem b_rad : ∀ k, k ≤ 4 → b_row [4, 9, 16, 26, 40] k = radI (nI k) := by decide +kernel
theorem b_rch : ∀ k, k ≤ 3 → b_row [1, 3, 6, 10] k = rchI (nI k) := by decide +kernel
theorem b_wf : WF b_s0 := by
  have h1 : nS b_s0 = 0 := by decide +kernel
  have h2 : nE b_s0 = 0 := by decide +kernel
  have h3 : nD b_s0 = 0 := by decide +kernel
  refine ⟨⟨0, by decide, by decide +kernel⟩, ⟨0, by decide, by decide +kernel⟩, ⟨0, by decide, by decide +kernel⟩, ⟨0, by decide, by decide +kernel⟩, ⟨40, by decide, by decide +kernel⟩, ⟨⟨4, by decide, by decide +kernel⟩, by decide +kernel⟩, ⟨3, by decide, by decide +kernel⟩, fun k hk => ?_, fun k hk => ?_, fun k hk => ?_⟩
  · rw [h1] at hk; exact absurd hk (Nat.not_lt_zero k)
  · rw [h2] at hk; exact absurd hk (Nat.not_lt_zero k)
  · rw [h3] at hk; exact absurd hk (Nat.not_lt_zero k)
theorem b_rph (L : Nat) (xs : Nat → Int32) : RpH (b_m0 L xs) 0 b_s0 := by
  have h1 : nS b_s0 = 0 := by decide +kernel
  have h2 : nE b_s0 = 0 := by decide +kernel
  have h3 : nD b_s0 = 0 := by decide +kernel
  refine ⟨⟨⟨fun k hk => b_rad k hk, fun k hk => b_rch k hk, ⟨rfl, rfl, rfl⟩, ⟨rfl, rfl, rfl⟩⟩, ⟨rfl, rfl, rfl, rfl, rfl, rfl, rfl, rfl⟩, fun k hk => ?_, fun k hk => ?_, fun k hk => ?_, b_wf⟩, ⟨0, by decide, by decide +kernel⟩⟩
  · rw [h1] at hk; exact absurd hk (Nat.not_lt_zero k)
  · rw [h2] at hk; exact absurd hk (Nat.not_lt_zero k)
  · rw [h3] at hk; exact absurd hk (Nat.not_lt_zero k)
theorem b_cl (L : Nat) (xs : Nat → Int32) : CL (b_m0 L xs) b_s0 := by
  have z : (0 : Int32) = nI 0 := nI_0.symm
  exact ⟨⟨0, 0, fun _ => b_s0, by omega, by omega, z, z, fun i hi => absurd hi (Nat.not_lt_zero i)⟩, b_rph L xs, rfl⟩
theorem b_ix : IX b_s0 := by
  have h3 : nD b_s0 = 0 := by decide +kernel
  refine ⟨fun k hk => ?_, fun k _ _ => ?_⟩
  · rw [h3] at hk; exact absurd hk (Nat.not_lt_zero k)
  · unfold b_s0
    refine ⟨?_, ?_, ?_⟩ <;> rw [upd_n (by omega), upd_n (by omega), upd_n (by omega)]
theorem b_zero (L : Nat) (xs : Nat → Int32) : b_m0 L xs = setS (b_m0 L xs) (fun _ => 0) := by
  funext c b i
  cases h : aAd c b i with
  | none => rw [S_no h]
  | some J =>
    rw [S_ad h]
    have hc : ¬ (c < 34 ∨ 40 ≤ c) := fun z => by rw [aAd_o z] at h; cases h
    unfold b_m0
    rw [if_neg (by omega), if_neg (by omega), if_neg (by omega), if_neg (by omega), if_neg (by omega), if_neg (by omega), if_neg (by omega), if_neg (by omega), if_neg (by omega)]
/-- the law comes to its end with 1, from behind its makings -/
theorem b_law (L : Nat) (xs : Nat → Int32) : Rg 115 42 [some (.inr (46, 0)), some (.inr (27, 0)), some (.inr (34, 0)), some (.inr (35, 0)), some (.inr (36, 0)), some (.inr (37, 0)), some (.inr (38, 0)), some (.inr (39, 0)), none, none, none] [] (b_m0 L xs) (qI (fun v _ => v = 1)) := by
  refine T_115_42 (fun m1 e1 m2 e2 m3 e3 => ?_)
  have e : m3 = setS (b_m0 L xs) b_s0 := by
    rw [e3, e2, e1, b_zero L xs, uG5, uG6, uG7, S_S]
    rfl
  subst e
  refine M_114 (b_cl L xs) b_ix (fun m hC => ?_)
  exact law_1 (fun _ => rfl) 0 (Nat.zero_le _) m b_s0 0 hC b_ix (by decide +kernel) (Nat.le_refl _)
/-- where the cells lie at the end -/
def b_ad (h6 : Nat) (ad : Nat → Nat → Nat) (f a0 : Nat → Nat) : Nat → Nat → Nat := fun c b => if c = 27 then h6 else if c < 34 then ad c b else if c < 40 then f c else a0 c
theorem b_ad_hi {h6 : Nat} {ad : Nat → Nat → Nat} {f a0 : Nat → Nat} {c b : Nat} (h : 41 ≤ c) : b_ad h6 ad f a0 c b = a0 c := by
  unfold b_ad
  rw [if_neg (by omega), if_neg (by omega), if_neg (by omega)]
def b_F (g : aG) (m : aM) (i : Nat) : Nat × va_E := (g.2.2.2 (a_rc i).1 (a_rc i).2, a_cell g m (a_rc i).1 (a_rc i).2)
set_option maxRecDepth 100000 in
theorem b_blk_ws (L : Nat) (xs : Nat → Int32) (g : aG) (b : Nat) : b_blk (b_m0 L xs) g (fun c => g.2.2.2 c b) = (List.range 27).map (fun c => (g.2.2.2 c b, a_cell g (b_m0 L xs) c b)) := rfl
theorem b_chunk (g : aG) (m : aM) (b : Nat) (hb : b < 10) : ((List.range 27).map (fun c => 27 * b + c)).map (b_F g m) = (List.range 27).map (fun c => (g.2.2.2 c b, a_cell g m c b)) := by
  rw [List.map_map]
  refine List.map_congr_left fun c hc => ?_
  have hc := List.mem_range.mp hc
  have e : a_rc (27 * b + c) = (c, b) := by
    unfold a_rc
    rw [if_pos (by omega), show (27 * b + c) % 27 = c by omega, show (27 * b + c) / 27 = b by omega]
  show b_F g m (27 * b + c) = _
  unfold b_F
  rw [e]
set_option maxRecDepth 100000 in
theorem b_range : List.range 283 = (((((((((((List.range 27).map (fun c => 27 * 0 + c)) ++ ((List.range 27).map (fun c => 27 * 1 + c))) ++ ((List.range 27).map (fun c => 27 * 2 + c))) ++ ((List.range 27).map (fun c => 27 * 3 + c))) ++ ((List.range 27).map (fun c => 27 * 4 + c))) ++ ((List.range 27).map (fun c => 27 * 5 + c))) ++ ((List.range 27).map (fun c => 27 * 6 + c))) ++ ((List.range 27).map (fun c => 27 * 7 + c))) ++ ((List.range 27).map (fun c => 27 * 8 + c))) ++ ((List.range 27).map (fun c => 27 * 9 + c))) ++ ((List.range 7).map (fun c => 270 + c)) ++ ((List.range 6).map (fun c => 277 + c)) := by decide +kernel
set_option maxRecDepth 100000 in
set_option maxHeartbeats 4000000 in
theorem b_ws_all (L : Nat) (xs : Nat → Int32) (cI cZ cS : ClassId) (z ad : Nat → Nat → Nat) (h6 : Nat) (f a0 : Nat → Nat) : b_wX6 (b_m0 L xs) (cI, cZ, cS, z) h6 ad ++ ([(f 34, .inl (cI, (8, .inl (fun _ => 0)))), (f 35, .inl (cI, (40, .inl (fun _ => 0)))), (f 36, .inl (cI, (56, .inl (fun _ => 0)))), (f 37, .inl (cI, (64, .inl (fun _ => 0)))), (f 38, .inl (cI, (48, .inl (fun _ => 0)))), (f 39, .inl (cI, (48, .inl (fun _ => 0))))] : va_W) = a_ws (cI, cZ, cS, b_ad h6 ad f a0) (b_m0 L xs) := by
  obtain ⟨g1, hg1⟩ : ∃ g1 : aG, g1 = (cI, cZ, cS, b_ad h6 ad f a0) := ⟨_, rfl⟩
  have hb : ∀ b, b < 10 → b_blk (b_m0 L xs) (cI, cZ, cS, z) (fun c => ad c b) = ((List.range 27).map (fun c => 27 * b + c)).map (b_F g1 (b_m0 L xs)) := by
    intro b hb
    refine Eq.trans ?_ ((b_blk_ws L xs g1 b).trans (b_chunk g1 (b_m0 L xs) b hb).symm)
    rw [hg1]
    rfl
  have e6 : ([(h6, .inr (6, [.ref (ad 0 0), .ref (ad 0 1), .ref (ad 28 0), .ref (ad 30 0), .ref (ad 31 0), .ref (ad 32 0)])), (ad 28 0, .inr (3, [.ref (ad 29 0), .int 0, .int 0])), (ad 29 0, .inl (cS, (6, .inr (.inr (.inr (.inr (fun j => some (ad 0 (2 + j))))))))), (ad 30 0, .inl (cS, (2, .inr (.inr (.inr (.inr (fun j => some (ad 0 (8 + j))))))))), (ad 31 0, .inl (cZ, (2, .inl (fun _ => 0)))), (ad 32 0, .inr (0, [.ref (ad 33 0), .int 0, .int 0, .int (-6), .int 0, .int 0, .int 0, .int 0])), (ad 33 0, .inl (cI, (80, .inl (fun _ => 0))))] : va_W) = ((List.range 7).map (fun c => 270 + c)).map (b_F g1 (b_m0 L xs)) := by
    rw [hg1]
    rfl
  have e7 : ([(f 34, .inl (cI, (8, .inl (fun _ => 0)))), (f 35, .inl (cI, (40, .inl (fun _ => 0)))), (f 36, .inl (cI, (56, .inl (fun _ => 0)))), (f 37, .inl (cI, (64, .inl (fun _ => 0)))), (f 38, .inl (cI, (48, .inl (fun _ => 0)))), (f 39, .inl (cI, (48, .inl (fun _ => 0))))] : va_W) = ((List.range 6).map (fun c => 277 + c)).map (b_F g1 (b_m0 L xs)) := by
    rw [hg1]
    rfl
  rw [← hg1]
  show _ = (List.range 283).map (b_F g1 (b_m0 L xs))
  rw [b_range]
  rw [List.map_append, List.map_append, List.map_append, List.map_append, List.map_append, List.map_append, List.map_append, List.map_append, List.map_append, List.map_append, List.map_append]
  rw [← hb 0 (by omega), ← hb 1 (by omega), ← hb 2 (by omega), ← hb 3 (by omega), ← hb 4 (by omega), ← hb 5 (by omega), ← hb 6 (by omega), ← hb 7 (by omega), ← hb 8 (by omega), ← hb 9 (by omega), ← e6, ← e7]
  rfl
