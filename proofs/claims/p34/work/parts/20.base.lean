/-! numbers, loops, the reference's row -/
theorem a_in_I {i : Int32} {j N : Nat} (hi : i = nI j) (h : j < N) (hN : N < 2 ^ 31) : a_in i N = true := by
  subst hi
  unfold a_in
  rw [nI_clamp (by omega), decide_eq_true (nI_pos (by omega)), decide_eq_true h]
  rfl
theorem ix_G {i : Int32} {j : Nat} (hi : i = nI j) (h : j < 2 ^ 31) : i.toNatClampNeg = j := by rw [hi, nI_clamp h]
theorem gE (a c k f : Nat) : nI a + nI c * nI k + nI f = nI (a + c * k + f) := by rw [pk_mul, nI_add, nI_add]
theorem inK {k N : Nat} (h : k < N) (hN : N < 2 ^ 31) : a_in (nI k) N = true := a_in_I rfl h hN
theorem ixK {k : Nat} (h : k < 2 ^ 31) : (nI k).toNatClampNeg = k := nI_clamp h
theorem upd_e {s : Nat → Int32} {i : Nat} {v : Int32} : upd s i v i = v := by simp [upd]
theorem upd_n {s : Nat → Int32} {i j : Nat} {v : Int32} (h : ¬ j = i) : upd s i v j = s j := by simp [upd, h]
theorem upd_id {s : Nat → Int32} {i : Nat} : upd s i (s i) = s := by
  funext j
  unfold upd
  split
  · rename_i h; rw [h]
  · rfl
def anyN (f : Nat → Bool) : Nat → Bool
  | 0 => false
  | n + 1 => anyN f n || f n
def cntN (f : Nat → Bool) : Nat → Nat
  | 0 => 0
  | n + 1 => cntN f n + (if f n = true then 1 else 0)
def sumN (f : Nat → Int32) : Nat → Int32
  | 0 => 0
  | n + 1 => sumN f n + f n
def itN {α : Type} (f : Nat → α → α) (a : α) : Nat → α
  | 0 => a
  | n + 1 => f n (itN f a n)
theorem cntN_le (f : Nat → Bool) : ∀ n, cntN f n ≤ n
  | 0 => Nat.le_refl 0
  | n + 1 => by
    have := cntN_le f n
    unfold cntN
    split <;> omega
theorem cntN_congr {f g : Nat → Bool} : ∀ {n : Nat}, (∀ k, k < n → f k = g k) → cntN f n = cntN g n
  | 0, _ => rfl
  | n + 1, h => by
    unfold cntN
    rw [cntN_congr (fun k hk => h k (by omega)), h n (by omega)]
theorem anyN_congr {f g : Nat → Bool} : ∀ {n : Nat}, (∀ k, k < n → f k = g k) → anyN f n = anyN g n
  | 0, _ => rfl
  | n + 1, h => by
    unfold anyN
    rw [anyN_congr (fun k hk => h k (by omega)), h n (by omega)]
theorem sumN_congr {f g : Nat → Int32} : ∀ {n : Nat}, (∀ k, k < n → f k = g k) → sumN f n = sumN g n
  | 0, _ => rfl
  | n + 1, h => by
    unfold sumN
    rw [sumN_congr (fun k hk => h k (by omega)), h n (by omega)]
theorem anyN_iff {f : Nat → Bool} : ∀ {n : Nat}, anyN f n = true ↔ ∃ k, k < n ∧ f k = true
  | 0 => ⟨fun h => by simp [anyN] at h, fun ⟨_, h, _⟩ => absurd h (Nat.not_lt_zero _)⟩
  | n + 1 => by
    unfold anyN
    rw [Bool.or_eq_true, anyN_iff]
    constructor
    · rintro (⟨k, h1, h2⟩ | h)
      · exact ⟨k, by omega, h2⟩
      · exact ⟨n, by omega, h⟩
    · rintro ⟨k, h1, h2⟩
      rcases Nat.lt_or_ge k n with q | q
      · exact Or.inl ⟨k, q, h2⟩
      · obtain rfl : k = n := by omega
        exact Or.inr h2
theorem anyN_f {f : Nat → Bool} {n : Nat} (h : ∀ k, k < n → f k = false) : anyN f n = false := by
  cases hb : anyN f n with
  | false => rfl
  | true =>
    obtain ⟨k, h1, h2⟩ := anyN_iff.mp hb
    rw [h k h1] at h2
    cases h2
theorem anyN_t {f : Nat → Bool} {n k : Nat} (hk : k < n) (h : f k = true) : anyN f n = true := anyN_iff.mpr ⟨k, hk, h⟩
/-- a loop that counts up, looked at from its end -/
theorem dn {n : Nat} {P : Nat → Prop} (h0 : P n) (hs : ∀ k, k < n → P (k + 1) → P k) : ∀ k, k ≤ n → P k := by
  have : ∀ j k, k + j = n → P k := by
    intro j
    induction j with
    | zero => intro k h; obtain rfl : k = n := by omega
              exact h0
    | succ j ih => intro k h; exact hs k (by omega) (ih (k + 1) (by omega))
  intro k hk
  exact this (n - k) k (by omega)
theorem dn0 {n : Nat} {P : Nat → Prop} (h0 : P n) (hs : ∀ k, k < n → P (k + 1) → P k) : P 0 := dn h0 hs 0 (Nat.zero_le n)
theorem bP_01t {b : Bool} : (if b = true then (1 : Int32) else 0) = bP (b = true) := rfl
theorem nI0 : (0 : Int32) = nI 0 := rfl
theorem i_lt {k n : Nat} {A B : Prop} (h : k < n) (hn : n < 2 ^ 31) (ha : A) : if nI k < nI n then A else B := i_pos (nI_lt h hn) ha
theorem i_ge {k n : Nat} {A B : Prop} (h : n ≤ k) (hn : k < 2 ^ 31) (hb : B) : if nI k < nI n then A else B := i_neg (nI_nlt h hn) hb
