/-! the memory at the start: both sides are alike there; the cells that the constructors made are the abstract machine's -/
def b_v26 : Nat → Int32 := upd (upd (upd (fun _ => 0) 0 40) 1 4) 2 3
def b_row (vs : List Int32) : Nat → Int32 := fun j => vs.getD j 0
def b_m0 (L : Nat) (xs : Nat → Int32) : aM := fun c _ => if c = 26 then b_v26 else if c = 32 then upd (fun _ => 0) 3 (-6) else if c = 35 then b_s0 else if c = 41 then b_row [4, 9, 16, 26, 40] else if c = 42 then b_row [1, 3, 6, 10] else if c = 43 then b_row [40, 4, 3] else if c = 44 then b_row [0, 1, 0] else if c = 45 then b_row [100, 12, 20] else if c = 46 then xs else if c = 47 then (fun _ => nI L) else (fun _ => 0)
theorem b_rad : ∀ k, k ≤ 4 → b_row [4, 9, 16, 26, 40] k = radI (nI k) := by decide +kernel
theorem b_rch : ∀ k, k ≤ 3 → b_row [1, 3, 6, 10] k = rchI (nI k) := by decide +kernel
theorem b_wf : WF b_s0 := by
  have h1 : nS b_s0 = 0 := by decide +kernel
  have h2 : nE b_s0 = 0 := by decide +kernel
  have h3 : nD b_s0 = 0 := by decide +kernel
  refine ⟨⟨0, by decide, by decide +kernel⟩, ⟨0, by decide, by decide +kernel⟩, ⟨0, by decide, by decide +kernel⟩, ⟨0, by decide, by decide +kernel⟩, ⟨40, by decide, by decide +kernel⟩, ⟨⟨4, by decide, by decide +kernel⟩, by decide +kernel⟩, ⟨3, by decide, by decide +kernel⟩, fun k hk => ?_, fun k hk => ?_, fun k hk => ?_⟩
  · rw [h1] at hk; exact absurd hk (Nat.not_lt_zero k)
  · rw [h2] at hk; exact absurd hk (Nat.not_lt_zero k)
  · rw [h3] at hk; exact absurd hk (Nat.not_lt_zero k)
theorem b_rph (L : Nat) (xs : Nat → Int32) : RpH (b_m0 L xs) 0 b_s0 := by
  have h1 : nS b_s0 = 0 := by decide +kernel
  have h2 : nE b_s0 = 0 := by decide +kernel
  have h3 : nD b_s0 = 0 := by decide +kernel
  refine ⟨⟨⟨fun k hk => b_rad k hk, fun k hk => b_rch k hk, ⟨rfl, rfl, rfl⟩, ⟨rfl, rfl, rfl⟩⟩, ⟨rfl, rfl, rfl, rfl, rfl, rfl, rfl, rfl⟩, fun k hk => ?_, fun k hk => ?_, fun k hk => ?_, b_wf⟩, ⟨0, by decide, by decide +kernel⟩⟩
  · rw [h1] at hk; exact absurd hk (Nat.not_lt_zero k)
  · rw [h2] at hk; exact absurd hk (Nat.not_lt_zero k)
  · rw [h3] at hk; exact absurd hk (Nat.not_lt_zero k)
theorem b_sim (L : Nat) (xs : Nat → Int32) : Sim (b_m0 L xs) := by
  have z : (0 : Int32) = nI 0 := nI_0.symm
  refine ⟨⟨0, 0, fun _ => b_s0, ⟨by omega, by omega, z, z, fun i hi => absurd hi (Nat.not_lt_zero i)⟩, ⟨by omega, z, fun i hi => absurd hi (Nat.not_lt_zero i)⟩⟩, fun t _ => ⟨rfl, Or.inl rfl⟩, ⟨0, by omega, z, z, fun j hj => absurd hj (Nat.not_lt_zero j)⟩, rfl, ?_⟩
  show RpH (b_m0 L xs) 0 b_s0
  exact b_rph L xs
/-- where the cells lie at the end -/
def b_ad (h6 h7 : Nat) (ad : Nat → Nat → Nat) (f a0 : Nat → Nat) : Nat → Nat → Nat := fun c b => if c = 27 then h6 else if c = 34 then h7 else if c < 34 then ad c b else if c < 41 then f c else a0 c
theorem b_ad_hi {h6 h7 : Nat} {ad : Nat → Nat → Nat} {f a0 : Nat → Nat} {c b : Nat} (h : 41 ≤ c) : b_ad h6 h7 ad f a0 c b = a0 c := by
  unfold b_ad
  rw [if_neg (by omega), if_neg (by omega), if_neg (by omega), if_neg (by omega)]
def b_F (g : aG) (m : aM) (i : Nat) : Nat × va_E := (g.2.2.2 (a_rc i).1 (a_rc i).2, a_cell g m (a_rc i).1 (a_rc i).2)
set_option maxRecDepth 100000 in
theorem b_blk_ws (L : Nat) (xs : Nat → Int32) (g : aG) (b : Nat) : b_blk (b_m0 L xs) g (fun c => g.2.2.2 c b) = (List.range 27).map (fun c => (g.2.2.2 c b, a_cell g (b_m0 L xs) c b)) := rfl
theorem b_chunk (g : aG) (m : aM) (b : Nat) (hb : b < 10) : ((List.range 27).map (fun c => 27 * b + c)).map (b_F g m) = (List.range 27).map (fun c => (g.2.2.2 c b, a_cell g m c b)) := by
  rw [List.map_map]
  refine List.map_congr_left fun c hc => ?_
  have hc := List.mem_range.mp hc
  have e : a_rc (27 * b + c) = (c, b) := by
    unfold a_rc
    rw [if_pos (by omega), show (27 * b + c) % 27 = c by omega, show (27 * b + c) / 27 = b by omega]
  show b_F g m (27 * b + c) = _
  unfold b_F
  rw [e]
set_option maxRecDepth 100000 in
theorem b_range : List.range 284 = (((((((((((List.range 27).map (fun c => 27 * 0 + c)) ++ ((List.range 27).map (fun c => 27 * 1 + c))) ++ ((List.range 27).map (fun c => 27 * 2 + c))) ++ ((List.range 27).map (fun c => 27 * 3 + c))) ++ ((List.range 27).map (fun c => 27 * 4 + c))) ++ ((List.range 27).map (fun c => 27 * 5 + c))) ++ ((List.range 27).map (fun c => 27 * 6 + c))) ++ ((List.range 27).map (fun c => 27 * 7 + c))) ++ ((List.range 27).map (fun c => 27 * 8 + c))) ++ ((List.range 27).map (fun c => 27 * 9 + c))) ++ ((List.range 7).map (fun c => 270 + c)) ++ ((List.range 7).map (fun c => 277 + c)) := by decide +kernel
set_option maxRecDepth 100000 in
set_option maxHeartbeats 4000000 in
theorem b_ws_all (L : Nat) (xs : Nat → Int32) (cI cZ cS : ClassId) (z ad : Nat → Nat → Nat) (h6 h7 : Nat) (f a0 : Nat → Nat) : b_wX6 (b_m0 L xs) (cI, cZ, cS, z) h6 ad ++ b_wX7 (cI, cZ, cS, z) h7 f = a_ws (cI, cZ, cS, b_ad h6 h7 ad f a0) (b_m0 L xs) := by
  obtain ⟨g1, hg1⟩ : ∃ g1 : aG, g1 = (cI, cZ, cS, b_ad h6 h7 ad f a0) := ⟨_, rfl⟩
  have hb : ∀ b, b < 10 → b_blk (b_m0 L xs) (cI, cZ, cS, z) (fun c => ad c b) = ((List.range 27).map (fun c => 27 * b + c)).map (b_F g1 (b_m0 L xs)) := by
    intro b hb
    refine Eq.trans ?_ ((b_blk_ws L xs g1 b).trans (b_chunk g1 (b_m0 L xs) b hb).symm)
    rw [hg1]
    rfl
  have e6 : ([(h6, .inr (6, [.ref (ad 0 0), .ref (ad 0 1), .ref (ad 28 0), .ref (ad 30 0), .ref (ad 31 0), .ref (ad 32 0)])), (ad 28 0, .inr (3, [.ref (ad 29 0), .int 0, .int 0])), (ad 29 0, .inl (cS, (6, .inr (.inr (.inr (.inr (fun j => some (ad 0 (2 + j))))))))), (ad 30 0, .inl (cS, (2, .inr (.inr (.inr (.inr (fun j => some (ad 0 (8 + j))))))))), (ad 31 0, .inl (cZ, (2, .inl (fun _ => 0)))), (ad 32 0, .inr (0, [.ref (ad 33 0), .int 0, .int 0, .int (-6), .int 0, .int 0, .int 0, .int 0])), (ad 33 0, .inl (cI, (80, .inl (fun _ => 0))))] : va_W) = ((List.range 7).map (fun c => 270 + c)).map (b_F g1 (b_m0 L xs)) := by
    rw [hg1]
    rfl
  have e7 : b_wX7 (cI, cZ, cS, z) h7 f = ((List.range 7).map (fun c => 277 + c)).map (b_F g1 (b_m0 L xs)) := by
    rw [hg1]
    rfl
  rw [← hg1]
  show _ = (List.range 284).map (b_F g1 (b_m0 L xs))
  rw [b_range]
  rw [List.map_append, List.map_append, List.map_append, List.map_append, List.map_append, List.map_append, List.map_append, List.map_append, List.map_append, List.map_append, List.map_append]
  rw [← hb 0 (by omega), ← hb 1 (by omega), ← hb 2 (by omega), ← hb 3 (by omega), ← hb 4 (by omega), ← hb 5 (by omega), ← hb 6 (by omega), ← hb 7 (by omega), ← hb 8 (by omega), ← hb 9 (by omega), ← e6, ← e7]
  rfl
