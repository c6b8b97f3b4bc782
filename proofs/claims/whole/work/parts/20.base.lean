/-! numbers, loops, the reference's row -/
theorem a_in_I {i : Int32} {j N : Nat} (hi : i = nI j) (h : j < N) (hN : N < 2 ^ 31) : a_in i N = true := by
  subst hi
  unfold a_in
  rw [nI_clamp (by omega), decide_eq_true (nI_pos (by omega)), decide_eq_true h]
  rfl
theorem ix_G {i : Int32} {j : Nat} (hi : i = nI j) (h : j < 2 ^ 31) : i.toNatClampNeg = j := by rw [hi, nI_clamp h]
theorem gE (a c k f : Nat) : nI a + nI c * nI k + nI f = nI (a + c * k + f) := by rw [pk_mul, nI_add, nI_add]
theorem inK {k N : Nat} (h : k < N) (hN : N < 2 ^ 31) : a_in (nI k) N = true := a_in_I rfl h hN
theorem ixK {k : Nat} (h : k < 2 ^ 31) : (nI k).toNatClampNeg = k := nI_clamp h
def setS (m : aM) (s : Nat → Int32) : aM := fun c b j => if c = 35 ∧ b = 0 then s j else m c b j
theorem S_s {m : aM} {s : Nat → Int32} {j : Nat} : setS m s 35 0 j = s j := by simp [setS]
theorem S_up {m : aM} {s : Nat → Int32} {j : Nat} {v : Int32} : a_up (setS m s) 35 0 j v = setS m (upd s j v) := by
  funext c b i
  unfold a_up setS upd
  by_cases h : c = 35 ∧ b = 0
  · obtain ⟨rfl, rfl⟩ := h
    simp
  · rw [if_neg (fun z => h ⟨z.1, z.2.1⟩), if_neg h, if_neg h]
theorem S_self (m : aM) : setS m (m 35 0) = m := by
  funext c b i
  unfold setS
  by_cases h : c = 35 ∧ b = 0
  · obtain ⟨rfl, rfl⟩ := h; simp
  · rw [if_neg h]
theorem S_S {m : aM} {s s' : Nat → Int32} : setS (setS m s) s' = setS m s' := by
  funext c b i
  unfold setS
  by_cases h : c = 35 ∧ b = 0
  · rw [if_pos h, if_pos h]
  · rw [if_neg h, if_neg h, if_neg h]
theorem S_ne {m : aM} {s : Nat → Int32} {c b j : Nat} (h : ¬ c = 35) : setS m s c b j = m c b j := by
  unfold setS
  rw [if_neg (fun z => h z.1)]
theorem S_upo {m : aM} {s : Nat → Int32} {c b j : Nat} {v : Int32} (h : ¬ c = 35) : a_up (setS m s) c b j v = setS (a_up m c b j v) s := by
  funext c' b' i
  unfold a_up setS
  by_cases h1 : c' = c ∧ b' = b ∧ i = j
  · obtain ⟨rfl, rfl, rfl⟩ := h1
    dsimp only
    rw [if_pos ⟨rfl, rfl, rfl⟩, if_neg (fun z => h z.1), if_pos ⟨rfl, rfl, rfl⟩]
  · rw [if_neg h1]
    by_cases h2 : c' = 35 ∧ b' = 0
    · rw [if_pos h2, if_pos h2]
    · rw [if_neg h2, if_neg h2]
      dsimp only
      rw [if_neg h1]
theorem upd_e {s : Nat → Int32} {i : Nat} {v : Int32} : upd s i v i = v := by simp [upd]
theorem upd_n {s : Nat → Int32} {i j : Nat} {v : Int32} (h : ¬ j = i) : upd s i v j = s j := by simp [upd, h]
theorem upd_id {s : Nat → Int32} {i : Nat} : upd s i (s i) = s := by
  funext j
  unfold upd
  split
  · rename_i h; rw [h]
  · rfl
def anyN (f : Nat → Bool) : Nat → Bool
  | 0 => false
  | n + 1 => anyN f n || f n
def cntN (f : Nat → Bool) : Nat → Nat
  | 0 => 0
  | n + 1 => cntN f n + (if f n = true then 1 else 0)
def sumN (f : Nat → Int32) : Nat → Int32
  | 0 => 0
  | n + 1 => sumN f n + f n
def itN {α : Type} (f : Nat → α → α) (a : α) : Nat → α
  | 0 => a
  | n + 1 => f n (itN f a n)
theorem cntN_le (f : Nat → Bool) : ∀ n, cntN f n ≤ n
  | 0 => Nat.le_refl 0
  | n + 1 => by
    have := cntN_le f n
    unfold cntN
    split <;> omega
theorem cntN_congr {f g : Nat → Bool} : ∀ {n : Nat}, (∀ k, k < n → f k = g k) → cntN f n = cntN g n
  | 0, _ => rfl
  | n + 1, h => by
    unfold cntN
    rw [cntN_congr (fun k hk => h k (by omega)), h n (by omega)]
theorem anyN_congr {f g : Nat → Bool} : ∀ {n : Nat}, (∀ k, k < n → f k = g k) → anyN f n = anyN g n
  | 0, _ => rfl
  | n + 1, h => by
    unfold anyN
    rw [anyN_congr (fun k hk => h k (by omega)), h n (by omega)]
theorem sumN_congr {f g : Nat → Int32} : ∀ {n : Nat}, (∀ k, k < n → f k = g k) → sumN f n = sumN g n
  | 0, _ => rfl
  | n + 1, h => by
    unfold sumN
    rw [sumN_congr (fun k hk => h k (by omega)), h n (by omega)]
theorem anyN_iff {f : Nat → Bool} : ∀ {n : Nat}, anyN f n = true ↔ ∃ k, k < n ∧ f k = true
  | 0 => ⟨fun h => by simp [anyN] at h, fun ⟨_, h, _⟩ => absurd h (Nat.not_lt_zero _)⟩
  | n + 1 => by
    unfold anyN
    rw [Bool.or_eq_true, anyN_iff]
    constructor
    · rintro (⟨k, h1, h2⟩ | h)
      · exact ⟨k, by omega, h2⟩
      · exact ⟨n, by omega, h⟩
    · rintro ⟨k, h1, h2⟩
      rcases Nat.lt_or_ge k n with q | q
      · exact Or.inl ⟨k, q, h2⟩
      · obtain rfl : k = n := by omega
        exact Or.inr h2
theorem anyN_f {f : Nat → Bool} {n : Nat} (h : ∀ k, k < n → f k = false) : anyN f n = false := by
  cases hb : anyN f n with
  | false => rfl
  | true =>
    obtain ⟨k, h1, h2⟩ := anyN_iff.mp hb
    rw [h k h1] at h2
    cases h2
theorem anyN_t {f : Nat → Bool} {n k : Nat} (hk : k < n) (h : f k = true) : anyN f n = true := anyN_iff.mpr ⟨k, hk, h⟩
/-- a loop that counts up, looked at from its end -/
theorem dn {n : Nat} {P : Nat → Prop} (h0 : P n) (hs : ∀ k, k < n → P (k + 1) → P k) : ∀ k, k ≤ n → P k := by
  have : ∀ j k, k + j = n → P k := by
    intro j
    induction j with
    | zero => intro k h; obtain rfl : k = n := by omega
              exact h0
    | succ j ih => intro k h; exact hs k (by omega) (ih (k + 1) (by omega))
  intro k hk
  exact this (n - k) k (by omega)
theorem dn0 {n : Nat} {P : Nat → Prop} (h0 : P n) (hs : ∀ k, k < n → P (k + 1) → P k) : P 0 := dn h0 hs 0 (Nat.zero_le n)
theorem bP_01t {b : Bool} : (if b = true then (1 : Int32) else 0) = bP (b = true) := rfl
theorem nI0 : (0 : Int32) = nI 0 := rfl
theorem i_lt {k n : Nat} {A B : Prop} (h : k < n) (hn : n < 2 ^ 31) (ha : A) : if nI k < nI n then A else B := i_pos (nI_lt h hn) ha
theorem i_ge {k n : Nat} {A B : Prop} (h : n ≤ k) (hn : k < 2 ^ 31) (hb : B) : if nI k < nI n then A else B := i_neg (nI_nlt h hn) hb

theorem eD0 (k : Nat) : (104 : Int32) + 10 * nI k + 0 = nI (104 + 10 * k + 0) := gE 104 10 k 0
theorem ixD0 {k : Nat} (h : k < 16) : ((104 : Int32) + 10 * nI k + 0).toNatClampNeg = 104 + 10 * k + 0 := ix_G (eD0 k) (by omega)
theorem inD0 {k : Nat} (h : k < 16) : a_in ((104 : Int32) + 10 * nI k + 0) 264 = true := a_in_I (eD0 k) (by omega) (by omega)
theorem eD1 (k : Nat) : (104 : Int32) + 10 * nI k + 1 = nI (104 + 10 * k + 1) := gE 104 10 k 1
theorem ixD1 {k : Nat} (h : k < 16) : ((104 : Int32) + 10 * nI k + 1).toNatClampNeg = 104 + 10 * k + 1 := ix_G (eD1 k) (by omega)
theorem inD1 {k : Nat} (h : k < 16) : a_in ((104 : Int32) + 10 * nI k + 1) 264 = true := a_in_I (eD1 k) (by omega) (by omega)
theorem eD2 (k : Nat) : (104 : Int32) + 10 * nI k + 2 = nI (104 + 10 * k + 2) := gE 104 10 k 2
theorem ixD2 {k : Nat} (h : k < 16) : ((104 : Int32) + 10 * nI k + 2).toNatClampNeg = 104 + 10 * k + 2 := ix_G (eD2 k) (by omega)
theorem inD2 {k : Nat} (h : k < 16) : a_in ((104 : Int32) + 10 * nI k + 2) 264 = true := a_in_I (eD2 k) (by omega) (by omega)
theorem eD3 (k : Nat) : (104 : Int32) + 10 * nI k + 3 = nI (104 + 10 * k + 3) := gE 104 10 k 3
theorem ixD3 {k : Nat} (h : k < 16) : ((104 : Int32) + 10 * nI k + 3).toNatClampNeg = 104 + 10 * k + 3 := ix_G (eD3 k) (by omega)
theorem inD3 {k : Nat} (h : k < 16) : a_in ((104 : Int32) + 10 * nI k + 3) 264 = true := a_in_I (eD3 k) (by omega) (by omega)
theorem eD4 (k : Nat) : (104 : Int32) + 10 * nI k + 4 = nI (104 + 10 * k + 4) := gE 104 10 k 4
theorem ixD4 {k : Nat} (h : k < 16) : ((104 : Int32) + 10 * nI k + 4).toNatClampNeg = 104 + 10 * k + 4 := ix_G (eD4 k) (by omega)
theorem inD4 {k : Nat} (h : k < 16) : a_in ((104 : Int32) + 10 * nI k + 4) 264 = true := a_in_I (eD4 k) (by omega) (by omega)
theorem eD5 (k : Nat) : (104 : Int32) + 10 * nI k + 5 = nI (104 + 10 * k + 5) := gE 104 10 k 5
theorem ixD5 {k : Nat} (h : k < 16) : ((104 : Int32) + 10 * nI k + 5).toNatClampNeg = 104 + 10 * k + 5 := ix_G (eD5 k) (by omega)
theorem inD5 {k : Nat} (h : k < 16) : a_in ((104 : Int32) + 10 * nI k + 5) 264 = true := a_in_I (eD5 k) (by omega) (by omega)
theorem eD6 (k : Nat) : (104 : Int32) + 10 * nI k + 6 = nI (104 + 10 * k + 6) := gE 104 10 k 6
theorem ixD6 {k : Nat} (h : k < 16) : ((104 : Int32) + 10 * nI k + 6).toNatClampNeg = 104 + 10 * k + 6 := ix_G (eD6 k) (by omega)
theorem inD6 {k : Nat} (h : k < 16) : a_in ((104 : Int32) + 10 * nI k + 6) 264 = true := a_in_I (eD6 k) (by omega) (by omega)
theorem eD7 (k : Nat) : (104 : Int32) + 10 * nI k + 7 = nI (104 + 10 * k + 7) := gE 104 10 k 7
theorem ixD7 {k : Nat} (h : k < 16) : ((104 : Int32) + 10 * nI k + 7).toNatClampNeg = 104 + 10 * k + 7 := ix_G (eD7 k) (by omega)
theorem inD7 {k : Nat} (h : k < 16) : a_in ((104 : Int32) + 10 * nI k + 7) 264 = true := a_in_I (eD7 k) (by omega) (by omega)
theorem eD8 (k : Nat) : (104 : Int32) + 10 * nI k + 8 = nI (104 + 10 * k + 8) := gE 104 10 k 8
theorem ixD8 {k : Nat} (h : k < 16) : ((104 : Int32) + 10 * nI k + 8).toNatClampNeg = 104 + 10 * k + 8 := ix_G (eD8 k) (by omega)
theorem inD8 {k : Nat} (h : k < 16) : a_in ((104 : Int32) + 10 * nI k + 8) 264 = true := a_in_I (eD8 k) (by omega) (by omega)
theorem eD9 (k : Nat) : (104 : Int32) + 10 * nI k + 9 = nI (104 + 10 * k + 9) := gE 104 10 k 9
theorem ixD9 {k : Nat} (h : k < 16) : ((104 : Int32) + 10 * nI k + 9).toNatClampNeg = 104 + 10 * k + 9 := ix_G (eD9 k) (by omega)
theorem inD9 {k : Nat} (h : k < 16) : a_in ((104 : Int32) + 10 * nI k + 9) 264 = true := a_in_I (eD9 k) (by omega) (by omega)
theorem eS0 (k : Nat) : (8 : Int32) + 5 * nI k + 0 = nI (8 + 5 * k + 0) := gE 8 5 k 0
theorem ixS0 {k : Nat} (h : k < 8) : ((8 : Int32) + 5 * nI k + 0).toNatClampNeg = 8 + 5 * k + 0 := ix_G (eS0 k) (by omega)
theorem inS0 {k : Nat} (h : k < 8) : a_in ((8 : Int32) + 5 * nI k + 0) 264 = true := a_in_I (eS0 k) (by omega) (by omega)
theorem eS1 (k : Nat) : (8 : Int32) + 5 * nI k + 1 = nI (8 + 5 * k + 1) := gE 8 5 k 1
theorem ixS1 {k : Nat} (h : k < 8) : ((8 : Int32) + 5 * nI k + 1).toNatClampNeg = 8 + 5 * k + 1 := ix_G (eS1 k) (by omega)
theorem inS1 {k : Nat} (h : k < 8) : a_in ((8 : Int32) + 5 * nI k + 1) 264 = true := a_in_I (eS1 k) (by omega) (by omega)
theorem eS2 (k : Nat) : (8 : Int32) + 5 * nI k + 2 = nI (8 + 5 * k + 2) := gE 8 5 k 2
theorem ixS2 {k : Nat} (h : k < 8) : ((8 : Int32) + 5 * nI k + 2).toNatClampNeg = 8 + 5 * k + 2 := ix_G (eS2 k) (by omega)
theorem inS2 {k : Nat} (h : k < 8) : a_in ((8 : Int32) + 5 * nI k + 2) 264 = true := a_in_I (eS2 k) (by omega) (by omega)
theorem eS3 (k : Nat) : (8 : Int32) + 5 * nI k + 3 = nI (8 + 5 * k + 3) := gE 8 5 k 3
theorem ixS3 {k : Nat} (h : k < 8) : ((8 : Int32) + 5 * nI k + 3).toNatClampNeg = 8 + 5 * k + 3 := ix_G (eS3 k) (by omega)
theorem inS3 {k : Nat} (h : k < 8) : a_in ((8 : Int32) + 5 * nI k + 3) 264 = true := a_in_I (eS3 k) (by omega) (by omega)
theorem eS4 (k : Nat) : (8 : Int32) + 5 * nI k + 4 = nI (8 + 5 * k + 4) := gE 8 5 k 4
theorem ixS4 {k : Nat} (h : k < 8) : ((8 : Int32) + 5 * nI k + 4).toNatClampNeg = 8 + 5 * k + 4 := ix_G (eS4 k) (by omega)
theorem inS4 {k : Nat} (h : k < 8) : a_in ((8 : Int32) + 5 * nI k + 4) 264 = true := a_in_I (eS4 k) (by omega) (by omega)
theorem eE0 (k : Nat) : (48 : Int32) + 7 * nI k + 0 = nI (48 + 7 * k + 0) := gE 48 7 k 0
theorem ixE0 {k : Nat} (h : k < 8) : ((48 : Int32) + 7 * nI k + 0).toNatClampNeg = 48 + 7 * k + 0 := ix_G (eE0 k) (by omega)
theorem inE0 {k : Nat} (h : k < 8) : a_in ((48 : Int32) + 7 * nI k + 0) 264 = true := a_in_I (eE0 k) (by omega) (by omega)
theorem eE1 (k : Nat) : (48 : Int32) + 7 * nI k + 1 = nI (48 + 7 * k + 1) := gE 48 7 k 1
theorem ixE1 {k : Nat} (h : k < 8) : ((48 : Int32) + 7 * nI k + 1).toNatClampNeg = 48 + 7 * k + 1 := ix_G (eE1 k) (by omega)
theorem inE1 {k : Nat} (h : k < 8) : a_in ((48 : Int32) + 7 * nI k + 1) 264 = true := a_in_I (eE1 k) (by omega) (by omega)
theorem eE2 (k : Nat) : (48 : Int32) + 7 * nI k + 2 = nI (48 + 7 * k + 2) := gE 48 7 k 2
theorem ixE2 {k : Nat} (h : k < 8) : ((48 : Int32) + 7 * nI k + 2).toNatClampNeg = 48 + 7 * k + 2 := ix_G (eE2 k) (by omega)
theorem inE2 {k : Nat} (h : k < 8) : a_in ((48 : Int32) + 7 * nI k + 2) 264 = true := a_in_I (eE2 k) (by omega) (by omega)
theorem eE3 (k : Nat) : (48 : Int32) + 7 * nI k + 3 = nI (48 + 7 * k + 3) := gE 48 7 k 3
theorem ixE3 {k : Nat} (h : k < 8) : ((48 : Int32) + 7 * nI k + 3).toNatClampNeg = 48 + 7 * k + 3 := ix_G (eE3 k) (by omega)
theorem inE3 {k : Nat} (h : k < 8) : a_in ((48 : Int32) + 7 * nI k + 3) 264 = true := a_in_I (eE3 k) (by omega) (by omega)
theorem eE4 (k : Nat) : (48 : Int32) + 7 * nI k + 4 = nI (48 + 7 * k + 4) := gE 48 7 k 4
theorem ixE4 {k : Nat} (h : k < 8) : ((48 : Int32) + 7 * nI k + 4).toNatClampNeg = 48 + 7 * k + 4 := ix_G (eE4 k) (by omega)
theorem inE4 {k : Nat} (h : k < 8) : a_in ((48 : Int32) + 7 * nI k + 4) 264 = true := a_in_I (eE4 k) (by omega) (by omega)
theorem eE5 (k : Nat) : (48 : Int32) + 7 * nI k + 5 = nI (48 + 7 * k + 5) := gE 48 7 k 5
theorem ixE5 {k : Nat} (h : k < 8) : ((48 : Int32) + 7 * nI k + 5).toNatClampNeg = 48 + 7 * k + 5 := ix_G (eE5 k) (by omega)
theorem inE5 {k : Nat} (h : k < 8) : a_in ((48 : Int32) + 7 * nI k + 5) 264 = true := a_in_I (eE5 k) (by omega) (by omega)
theorem eE6 (k : Nat) : (48 : Int32) + 7 * nI k + 6 = nI (48 + 7 * k + 6) := gE 48 7 k 6
theorem ixE6 {k : Nat} (h : k < 8) : ((48 : Int32) + 7 * nI k + 6).toNatClampNeg = 48 + 7 * k + 6 := ix_G (eE6 k) (by omega)
theorem inE6 {k : Nat} (h : k < 8) : a_in ((48 : Int32) + 7 * nI k + 6) 264 = true := a_in_I (eE6 k) (by omega) (by omega)
