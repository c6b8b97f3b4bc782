/-! the code rows looked up once; constants; switches; by program (wip/p34/gen9.py) -/
theorem kB_m6 : (Int8.ofInt (-6)).toInt32 = (-6 : Int32) := by decide +kernel
theorem kB_m5 : (Int8.ofInt (-5)).toInt32 = (-5 : Int32) := by decide +kernel
theorem kB_m4 : (Int8.ofInt (-4)).toInt32 = (-4 : Int32) := by decide +kernel
theorem kB_m3 : (Int8.ofInt (-3)).toInt32 = (-3 : Int32) := by decide +kernel
theorem kB_m2 : (Int8.ofInt (-2)).toInt32 = (-2 : Int32) := by decide +kernel
theorem kB_6 : (Int8.ofInt 6).toInt32 = (6 : Int32) := by decide +kernel
theorem kB_7 : (Int8.ofInt 7).toInt32 = (7 : Int32) := by decide +kernel
theorem kB_8 : (Int8.ofInt 8).toInt32 = (8 : Int32) := by decide +kernel
theorem kB_9 : (Int8.ofInt 9).toInt32 = (9 : Int32) := by decide +kernel
theorem kB_10 : (Int8.ofInt 10).toInt32 = (10 : Int32) := by decide +kernel
theorem kB_11 : (Int8.ofInt 11).toInt32 = (11 : Int32) := by decide +kernel
theorem kB_12 : (Int8.ofInt 12).toInt32 = (12 : Int32) := by decide +kernel
theorem kB_13 : (Int8.ofInt 13).toInt32 = (13 : Int32) := by decide +kernel
theorem kB_14 : (Int8.ofInt 14).toInt32 = (14 : Int32) := by decide +kernel
theorem kB_15 : (Int8.ofInt 15).toInt32 = (15 : Int32) := by decide +kernel
theorem kB_16 : (Int8.ofInt 16).toInt32 = (16 : Int32) := by decide +kernel
theorem kB_20 : (Int8.ofInt 20).toInt32 = (20 : Int32) := by decide +kernel
theorem kB_25 : (Int8.ofInt 25).toInt32 = (25 : Int32) := by decide +kernel
theorem kB_30 : (Int8.ofInt 30).toInt32 = (30 : Int32) := by decide +kernel
theorem kB_40 : (Int8.ofInt 40).toInt32 = (40 : Int32) := by decide +kernel
theorem kB_42 : (Int8.ofInt 42).toInt32 = (42 : Int32) := by decide +kernel
theorem kB_48 : (Int8.ofInt 48).toInt32 = (48 : Int32) := by decide +kernel
theorem kB_56 : (Int8.ofInt 56).toInt32 = (56 : Int32) := by decide +kernel
theorem kB_60 : (Int8.ofInt 60).toInt32 = (60 : Int32) := by decide +kernel
theorem kB_64 : (Int8.ofInt 64).toInt32 = (64 : Int32) := by decide +kernel
theorem kB_99 : (Int8.ofInt 99).toInt32 = (99 : Int32) := by decide +kernel
theorem kB_100 : (Int8.ofInt 100).toInt32 = (100 : Int32) := by decide +kernel
theorem kB_101 : (Int8.ofInt 101).toInt32 = (101 : Int32) := by decide +kernel
theorem kI_m1 : Int32.ofInt (-1) = (-1 : Int32) := by decide +kernel
theorem kI_0 : Int32.ofInt 0 = (0 : Int32) := by decide +kernel
theorem kI_1 : Int32.ofInt 1 = (1 : Int32) := by decide +kernel
theorem kI_2 : Int32.ofInt 2 = (2 : Int32) := by decide +kernel
theorem kI_3 : Int32.ofInt 3 = (3 : Int32) := by decide +kernel
theorem kI_4 : Int32.ofInt 4 = (4 : Int32) := by decide +kernel
theorem kI_5 : Int32.ofInt 5 = (5 : Int32) := by decide +kernel
theorem kN_40503 : nI 40503 = (40503 : Int32) := by decide +kernel
theorem kN_10000000 : nI 10000000 = (10000000 : Int32) := by decide +kernel
theorem kN_2147483647 : nI 2147483647 = (2147483647 : Int32) := by decide +kernel
theorem kS_320 : (Int16.ofInt 320).toInt32 = (320 : Int32) := by decide +kernel
theorem kS_800 : (Int16.ofInt 800).toInt32 = (800 : Int32) := by decide +kernel
theorem kS_3600 : (Int16.ofInt 3600).toInt32 = (3600 : Int32) := by decide +kernel
theorem kS_7919 : (Int16.ofInt 7919).toInt32 = (7919 : Int32) := by decide +kernel
theorem kS_9998 : (Int16.ofInt 9998).toInt32 = (9998 : Int32) := by decide +kernel
theorem kS_9999 : (Int16.ofInt 9999).toInt32 = (9999 : Int32) := by decide +kernel
theorem kS_28800 : (Int16.ofInt 28800).toInt32 = (28800 : Int32) := by decide +kernel
theorem kT_0 : (0 : Int32).toInt = 0 := by decide +kernel
theorem kT_1 : (1 : Int32).toInt = 1 := by decide +kernel
theorem kT_2 : (2 : Int32).toInt = 2 := by decide +kernel
theorem kT_3 : (3 : Int32).toInt = 3 := by decide +kernel
theorem kT_4 : (4 : Int32).toInt = 4 := by decide +kernel
theorem kT_5 : (5 : Int32).toInt = 5 := by decide +kernel
theorem kT_6 : (6 : Int32).toInt = 6 := by decide +kernel
theorem kT_7 : (7 : Int32).toInt = 7 := by decide +kernel
theorem kT_8 : (8 : Int32).toInt = 8 := by decide +kernel
theorem kT_9 : (9 : Int32).toInt = 9 := by decide +kernel
theorem kT_10 : (10 : Int32).toInt = 10 := by decide +kernel
theorem kT_11 : (11 : Int32).toInt = 11 := by decide +kernel
theorem kT_12 : (12 : Int32).toInt = 12 := by decide +kernel
theorem kT_13 : (13 : Int32).toInt = 13 := by decide +kernel
theorem kT_14 : (14 : Int32).toInt = 14 := by decide +kernel
theorem r_nm {q pc : Nat} {ls : aL} {st : List aV} {e : aM} {Q : Option aV → aM → Prop} (h : ∀ m2, m2 = e → Rg q pc ls st m2 Q) : Rg q pc ls st e Q := h e rfl
theorem cc_ge {x y : Int32} : a_cc .ge x y = decide (¬ x < y) := by
  simp only [a_cc, Int32.not_lt]
theorem cc_le {x y : Int32} : a_cc .le x y = decide (¬ y < x) := by
  simp only [a_cc, Int32.not_lt]
theorem i_pos {c : Prop} [Decidable c] {A B : Prop} (hc : c) (h : A) : if c then A else B := by rw [if_pos hc]; exact h
theorem i_neg {c : Prop} [Decidable c] {A B : Prop} (hc : ¬ c) (h : B) : if c then A else B := by rw [if_neg hc]; exact h
theorem sw_pos {l : List (Int × Int)} {pc d x : Int} (h : ∀ p ∈ l, pc + p.2 ≥ 0) (hd : pc + d ≥ 0) : pc + Op.lookupswitch.offset l d x ≥ 0 := by
  induction l with
  | nil => exact hd
  | cons p l ih =>
    obtain ⟨a, o⟩ := p
    rw [Op.lookupswitch.offset_cons]
    split
    · exact h (a, o) List.mem_cons_self
    · exact ih (fun p hp => h p (List.mem_cons_of_mem _ hp))
/-- the ways out of a switch, from the number k on -/
def swC (q pc : Nat) (ls : aL) (st : List aV) (m : aM) (Q : Option aV → aM → Prop) (x : Int) (d : Int) : Int → List Int → Prop
  | _, [] => Rg q (a_tg pc d) ls st m Q
  | k, o :: r => if x = k then Rg q (a_tg pc o) ls st m Q else swC q pc ls st m Q x d (k + 1) r
theorem swC_ok {q pc : Nat} {ls : aL} {st : List aV} {m : aM} {Q : Option aV → aM → Prop} {x d : Int} : ∀ (offs : List Int) (k : Int), swC q pc ls st m Q x d k offs → (x < k ∨ k + offs.length ≤ x → Rg q (a_tg pc d) ls st m Q) ∧ ∀ o, k ≤ x → offs[(x - k).toNat]? = some o → Rg q (a_tg pc o) ls st m Q := by
  intro offs
  induction offs with
  | nil =>
    intro k h
    exact ⟨fun _ => h, fun o _ ho => by simp at ho⟩
  | cons o offs ih =>
    intro k h
    unfold swC at h
    by_cases hx : x = k
    · rw [if_pos hx] at h
      refine ⟨fun z => ?_, fun o' _ ho => ?_⟩
      · rw [List.length_cons] at z; omega
      · rw [hx, Int.sub_self] at ho
        cases ho
        exact h
    · rw [if_neg hx] at h
      obtain ⟨h1, h2⟩ := ih (k + 1) h
      refine ⟨fun z => h1 ?_, fun o' hk ho => h2 o' (by omega) ?_⟩
      · rw [List.length_cons] at z; omega
      · rw [show (x - k).toNat = (x - (k + 1)).toNat + 1 by omega, List.getElem?_cons_succ] at ho
        exact ho
theorem r_tsw2 {q pc a b w : Nat} {ls : aL} {st : List aV} {m : aM} {Q : Option aV → aM → Prop} {x : Int32} {d lo hi : Int} {offs : List Int} (h : a_look q pc = some (.tableswitch d lo hi ⟨offs⟩, a, b, w)) (h1 : (pc : Int) + d ≥ 0 ∧ ∀ o ∈ offs, (pc : Int) + o ≥ 0) (h2 : hi + 1 = lo + offs.length) (h3 : swC q pc ls st m Q x.toInt d lo offs) : Rg q pc ls (.inl x :: st) m Q := by
  obtain ⟨k1, k2⟩ := swC_ok offs lo h3
  refine r_tsw h ⟨h1, ?_⟩ ?_
  · show x.toInt < lo ∨ hi < x.toInt ∨ (x.toInt - lo).toNat < offs.length
    omega
  · unfold a_ts
    by_cases hx : x.toInt < lo ∨ hi < x.toInt
    · rw [if_pos hx]
      exact k1 (by omega)
    · rw [if_neg hx]
      have hlt : (x.toInt - lo).toNat < offs.length := by omega
      have hg : (⟨offs⟩ : Array Int)[(x.toInt - lo).toNat]? = some offs[(x.toInt - lo).toNat] := by
        rw [List.getElem?_toArray]
        exact List.getElem?_eq_getElem hlt
      rw [hg]
      exact k2 _ (by omega) (List.getElem?_eq_getElem hlt)
theorem sw_eq {x y : Int32} {k : Int} (hy : y.toInt = k) : x.toInt = k ↔ x = y := by
  rw [← hy]
  exact Int32.toInt_inj
theorem sw_t {q pc tgt : Nat} {ls : aL} {st : List aV} {m : aM} {Q : Option aV → aM → Prop} {x y : Int32} {d k o : Int} {r : List Int} (hy : y.toInt = k) (ht : a_tg pc o = tgt) (h : if x = y then Rg q tgt ls st m Q else swC q pc ls st m Q x.toInt d (k + 1) r) : swC q pc ls st m Q x.toInt d k (o :: r) := by
  unfold swC
  rw [ht]
  by_cases hx : x = y
  · rw [if_pos hx] at h; rw [if_pos ((sw_eq hy).mpr hx)]; exact h
  · rw [if_neg hx] at h; rw [if_neg (fun z => hx ((sw_eq hy).mp z))]; exact h
theorem sw_l {q pc tgt : Nat} {ls : aL} {st : List aV} {m : aM} {Q : Option aV → aM → Prop} {x y : Int32} {d k o : Int} {r : List (Int × Int)} (hy : y.toInt = k) (ht : a_tg pc o = tgt) (h : if x = y then Rg q tgt ls st m Q else Rg q (a_lk pc d ⟨r⟩ x) ls st m Q) : Rg q (a_lk pc d ⟨(k, o) :: r⟩ x) ls st m Q := by
  show Rg q (a_tg pc (Op.lookupswitch.offset ((k, o) :: r) d x.toInt)) ls st m Q
  rw [Op.lookupswitch.offset_cons]
  by_cases hx : x = y
  · rw [if_pos hx] at h; rw [if_pos ((sw_eq hy).mpr hx).symm, ht]; exact h
  · rw [if_neg hx] at h; rw [if_neg (fun z => hx ((sw_eq hy).mp z.symm))]; exact h
theorem sw_d {q pc tgt : Nat} {ls : aL} {st : List aV} {m : aM} {Q : Option aV → aM → Prop} {x k d : Int} (ht : a_tg pc d = tgt) (h : Rg q tgt ls st m Q) : swC q pc ls st m Q x d k [] := by
  unfold swC
  rw [ht]
  exact h
theorem sw_dl {q pc tgt : Nat} {ls : aL} {st : List aV} {m : aM} {Q : Option aV → aM → Prop} {x : Int32} {d : Int} (ht : a_tg pc d = tgt) (h : Rg q tgt ls st m Q) : Rg q (a_lk pc d ⟨[]⟩ x) ls st m Q := by
  show Rg q (a_tg pc d) ls st m Q
  rw [ht]
  exact h
theorem ML_9 : a_ml 9 = 2 := by decide +kernel
theorem RT_9 : a_rt 9 = some .boolean := by decide +kernel
theorem ML_10 : a_ml 10 = 2 := by decide +kernel
theorem RT_10 : a_rt 10 = some .boolean := by decide +kernel
theorem ML_11 : a_ml 11 = 2 := by decide +kernel
theorem RT_11 : a_rt 11 = some .boolean := by decide +kernel
theorem ML_12 : a_ml 12 = 4 := by decide +kernel
theorem RT_12 : a_rt 12 = none := by decide +kernel
theorem ML_13 : a_ml 13 = 2 := by decide +kernel
theorem RT_13 : a_rt 13 = none := by decide +kernel
theorem ML_14 : a_ml 14 = 3 := by decide +kernel
theorem RT_14 : a_rt 14 = some .int := by decide +kernel
theorem ML_15 : a_ml 15 = 3 := by decide +kernel
theorem RT_15 : a_rt 15 = some .int := by decide +kernel
theorem ML_16 : a_ml 16 = 4 := by decide +kernel
theorem RT_16 : a_rt 16 = some .int := by decide +kernel
theorem ML_17 : a_ml 17 = 3 := by decide +kernel
theorem RT_17 : a_rt 17 = some .int := by decide +kernel
theorem ML_18 : a_ml 18 = 4 := by decide +kernel
theorem RT_18 : a_rt 18 = some .int := by decide +kernel
theorem ML_22 : a_ml 22 = 2 := by decide +kernel
theorem RT_22 : a_rt 22 = none := by decide +kernel
theorem ML_23 : a_ml 23 = 2 := by decide +kernel
theorem RT_23 : a_rt 23 = some .boolean := by decide +kernel
theorem ML_24 : a_ml 24 = 3 := by decide +kernel
theorem RT_24 : a_rt 24 = some .boolean := by decide +kernel
theorem ML_25 : a_ml 25 = 4 := by decide +kernel
theorem RT_25 : a_rt 25 = some .int := by decide +kernel
theorem ML_26 : a_ml 26 = 2 := by decide +kernel
theorem RT_26 : a_rt 26 = none := by decide +kernel
theorem ML_27 : a_ml 27 = 2 := by decide +kernel
theorem RT_27 : a_rt 27 = none := by decide +kernel
theorem ML_28 : a_ml 28 = 1 := by decide +kernel
theorem RT_28 : a_rt 28 = none := by decide +kernel
theorem ML_30 : a_ml 30 = 2 := by decide +kernel
theorem RT_30 : a_rt 30 = none := by decide +kernel
theorem ML_31 : a_ml 31 = 6 := by decide +kernel
theorem RT_31 : a_rt 31 = some .int := by decide +kernel
theorem ML_32 : a_ml 32 = 8 := by decide +kernel
theorem RT_32 : a_rt 32 = some .int := by decide +kernel
theorem ML_33 : a_ml 33 = 5 := by decide +kernel
theorem RT_33 : a_rt 33 = some .int := by decide +kernel
theorem ML_34 : a_ml 34 = 4 := by decide +kernel
theorem RT_34 : a_rt 34 = some .int := by decide +kernel
theorem ML_35 : a_ml 35 = 3 := by decide +kernel
theorem RT_35 : a_rt 35 = some .int := by decide +kernel
theorem ML_36 : a_ml 36 = 2 := by decide +kernel
theorem RT_36 : a_rt 36 = some .int := by decide +kernel
theorem ML_37 : a_ml 37 = 4 := by decide +kernel
theorem RT_37 : a_rt 37 = some .int := by decide +kernel
theorem ML_38 : a_ml 38 = 3 := by decide +kernel
theorem RT_38 : a_rt 38 = some .int := by decide +kernel
theorem ML_39 : a_ml 39 = 2 := by decide +kernel
theorem RT_39 : a_rt 39 = some .int := by decide +kernel
theorem ML_40 : a_ml 40 = 4 := by decide +kernel
theorem RT_40 : a_rt 40 = some .int := by decide +kernel
theorem ML_41 : a_ml 41 = 3 := by decide +kernel
theorem RT_41 : a_rt 41 = some .int := by decide +kernel
theorem ML_42 : a_ml 42 = 2 := by decide +kernel
theorem RT_42 : a_rt 42 = none := by decide +kernel
theorem ML_43 : a_ml 43 = 2 := by decide +kernel
theorem RT_43 : a_rt 43 = none := by decide +kernel
theorem ML_44 : a_ml 44 = 2 := by decide +kernel
theorem RT_44 : a_rt 44 = none := by decide +kernel
theorem ML_45 : a_ml 45 = 2 := by decide +kernel
theorem RT_45 : a_rt 45 = some .boolean := by decide +kernel
theorem ML_46 : a_ml 46 = 2 := by decide +kernel
theorem RT_46 : a_rt 46 = some .int := by decide +kernel
theorem ML_47 : a_ml 47 = 4 := by decide +kernel
theorem RT_47 : a_rt 47 = some .int := by decide +kernel
theorem ML_48 : a_ml 48 = 3 := by decide +kernel
theorem RT_48 : a_rt 48 = some .int := by decide +kernel
theorem ML_49 : a_ml 49 = 4 := by decide +kernel
theorem RT_49 : a_rt 49 = some .boolean := by decide +kernel
theorem ML_50 : a_ml 50 = 7 := by decide +kernel
theorem RT_50 : a_rt 50 = some .int := by decide +kernel
theorem ML_51 : a_ml 51 = 5 := by decide +kernel
theorem RT_51 : a_rt 51 = some .boolean := by decide +kernel
theorem ML_52 : a_ml 52 = 2 := by decide +kernel
theorem RT_52 : a_rt 52 = some .boolean := by decide +kernel
theorem ML_53 : a_ml 53 = 7 := by decide +kernel
theorem RT_53 : a_rt 53 = some .boolean := by decide +kernel
theorem ML_54 : a_ml 54 = 5 := by decide +kernel
theorem RT_54 : a_rt 54 = some .int := by decide +kernel
theorem ML_55 : a_ml 55 = 2 := by decide +kernel
theorem RT_55 : a_rt 55 = some .int := by decide +kernel
theorem ML_56 : a_ml 56 = 2 := by decide +kernel
theorem RT_56 : a_rt 56 = some .boolean := by decide +kernel
theorem ML_57 : a_ml 57 = 3 := by decide +kernel
theorem RT_57 : a_rt 57 = some .int := by decide +kernel
theorem ML_58 : a_ml 58 = 3 := by decide +kernel
theorem RT_58 : a_rt 58 = some .int := by decide +kernel
theorem ML_59 : a_ml 59 = 2 := by decide +kernel
theorem RT_59 : a_rt 59 = none := by decide +kernel
theorem ML_60 : a_ml 60 = 5 := by decide +kernel
theorem RT_60 : a_rt 60 = some .int := by decide +kernel
theorem ML_61 : a_ml 61 = 7 := by decide +kernel
theorem RT_61 : a_rt 61 = some .int := by decide +kernel
theorem ML_62 : a_ml 62 = 4 := by decide +kernel
theorem RT_62 : a_rt 62 = some .int := by decide +kernel
theorem ML_63 : a_ml 63 = 3 := by decide +kernel
theorem RT_63 : a_rt 63 = some .int := by decide +kernel
theorem ML_64 : a_ml 64 = 2 := by decide +kernel
theorem RT_64 : a_rt 64 = some .int := by decide +kernel
theorem ML_65 : a_ml 65 = 2 := by decide +kernel
theorem RT_65 : a_rt 65 = some .int := by decide +kernel
theorem ML_66 : a_ml 66 = 2 := by decide +kernel
theorem RT_66 : a_rt 66 = some .int := by decide +kernel
theorem ML_67 : a_ml 67 = 4 := by decide +kernel
theorem RT_67 : a_rt 67 = some .int := by decide +kernel
theorem ML_68 : a_ml 68 = 3 := by decide +kernel
theorem RT_68 : a_rt 68 = some .int := by decide +kernel
theorem ML_69 : a_ml 69 = 2 := by decide +kernel
theorem RT_69 : a_rt 69 = some .int := by decide +kernel
theorem ML_70 : a_ml 70 = 2 := by decide +kernel
theorem RT_70 : a_rt 70 = some .int := by decide +kernel
theorem ML_78 : a_ml 78 = 3 := by decide +kernel
theorem RT_78 : a_rt 78 = some .int := by decide +kernel
theorem ML_79 : a_ml 79 = 3 := by decide +kernel
theorem RT_79 : a_rt 79 = some .int := by decide +kernel
theorem ML_80 : a_ml 80 = 3 := by decide +kernel
theorem RT_80 : a_rt 80 = some .int := by decide +kernel
theorem ML_84 : a_ml 84 = 2 := by decide +kernel
theorem RT_84 : a_rt 84 = some .int := by decide +kernel
theorem ML_85 : a_ml 85 = 2 := by decide +kernel
theorem RT_85 : a_rt 85 = some .int := by decide +kernel
theorem ML_91 : a_ml 91 = 2 := by decide +kernel
theorem RT_91 : a_rt 91 = some .int := by decide +kernel
theorem ML_92 : a_ml 92 = 4 := by decide +kernel
theorem RT_92 : a_rt 92 = some .int := by decide +kernel
theorem ML_93 : a_ml 93 = 3 := by decide +kernel
theorem RT_93 : a_rt 93 = some .boolean := by decide +kernel
theorem ML_94 : a_ml 94 = 2 := by decide +kernel
theorem RT_94 : a_rt 94 = some .boolean := by decide +kernel
theorem ML_95 : a_ml 95 = 3 := by decide +kernel
theorem RT_95 : a_rt 95 = some .boolean := by decide +kernel
theorem ML_96 : a_ml 96 = 2 := by decide +kernel
theorem RT_96 : a_rt 96 = none := by decide +kernel
theorem ML_97 : a_ml 97 = 2 := by decide +kernel
theorem RT_97 : a_rt 97 = some .int := by decide +kernel
theorem ML_98 : a_ml 98 = 2 := by decide +kernel
theorem RT_98 : a_rt 98 = some .int := by decide +kernel
theorem ML_99 : a_ml 99 = 1 := by decide +kernel
theorem RT_99 : a_rt 99 = some .int := by decide +kernel
theorem ML_100 : a_ml 100 = 1 := by decide +kernel
theorem RT_100 : a_rt 100 = some .int := by decide +kernel
theorem ML_101 : a_ml 101 = 7 := by decide +kernel
theorem RT_101 : a_rt 101 = some .boolean := by decide +kernel
theorem ML_102 : a_ml 102 = 11 := by decide +kernel
theorem RT_102 : a_rt 102 = some .boolean := by decide +kernel
theorem ML_103 : a_ml 103 = 7 := by decide +kernel
theorem RT_103 : a_rt 103 = some .boolean := by decide +kernel
theorem ML_104 : a_ml 104 = 13 := by decide +kernel
theorem RT_104 : a_rt 104 = some .int := by decide +kernel
theorem ML_105 : a_ml 105 = 7 := by decide +kernel
theorem RT_105 : a_rt 105 = none := by decide +kernel
theorem ML_106 : a_ml 106 = 4 := by decide +kernel
theorem RT_106 : a_rt 106 = none := by decide +kernel
theorem ML_107 : a_ml 107 = 4 := by decide +kernel
theorem RT_107 : a_rt 107 = some .int := by decide +kernel
theorem ML_108 : a_ml 108 = 4 := by decide +kernel
theorem RT_108 : a_rt 108 = some .int := by decide +kernel
theorem ML_109 : a_ml 109 = 10 := by decide +kernel
theorem RT_109 : a_rt 109 = some .int := by decide +kernel
theorem ML_110 : a_ml 110 = 15 := by decide +kernel
theorem RT_110 : a_rt 110 = some .boolean := by decide +kernel
theorem ML_111 : a_ml 111 = 10 := by decide +kernel
theorem RT_111 : a_rt 111 = some .boolean := by decide +kernel
theorem ML_112 : a_ml 112 = 13 := by decide +kernel
theorem RT_112 : a_rt 112 = some .boolean := by decide +kernel
theorem ML_113 : a_ml 113 = 13 := by decide +kernel
theorem RT_113 : a_rt 113 = some .boolean := by decide +kernel
theorem ML_114 : a_ml 114 = 16 := by decide +kernel
theorem RT_114 : a_rt 114 = some .boolean := by decide +kernel
theorem ML_115 : a_ml 115 = 11 := by decide +kernel
theorem RT_115 : a_rt 115 = some .boolean := by decide +kernel
