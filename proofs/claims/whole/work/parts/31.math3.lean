theorem iB_in {x lo hi : Int32} (h1 : ¬ x < lo) (h2 : x ≤ hi) : iB x lo hi = true := by
  have h3 : ¬ hi < x := Int32.not_lt.mpr h2
  simp only [iB, h1, h3, decide_false, Bool.not_false, Bool.and_self]
theorem kd_1 (x : Int32) : iB x 97 104 = decide (kd x = 1) := by
  have h := lt_succ32 x 104 (by decide)
  simp only [show (104 : Int32) + 1 = 105 by decide] at h
  unfold iB kd
  by_cases h1 : x < 97
  · simp only [h1, not_true, false_and, if_false, decide_true, Bool.not_true, Bool.false_and]
    split <;> (first | (symm; decide) | skip)
    split <;> (first | (symm; decide) | skip)
    split <;> (symm; decide)
  · by_cases h2 : 104 < x
    · have h3 : 105 ≤ x := h.mpr h2
      simp only [h1, h2, h3, not_true, not_false_eq_true, and_false, if_false, decide_true, decide_false, Bool.not_true, Bool.not_false, Bool.and_false]
      split <;> (first | (symm; decide) | skip)
      split <;> (first | (symm; decide) | skip)
      split <;> (symm; decide)
    · have h3 : ¬ 105 ≤ x := fun q => h2 (h.mp q)
      simp [h1, h2, h3]
theorem kd_4 (x : Int32) (h0 : ¬ kd x = 1) : iB x 65 72 = decide (kd x = 4) := by
  have h := lt_succ32 x 72 (by decide)
  simp only [show (72 : Int32) + 1 = 73 by decide] at h
  have h9 : ¬ (¬ x < 97 ∧ ¬ 105 ≤ x) := fun q => h0 (by unfold kd; rw [if_pos q])
  unfold iB kd
  rw [if_neg h9]
  by_cases h1 : x < 65
  · simp only [h1, not_true, false_and, if_false, decide_true, Bool.not_true, Bool.false_and]
    split <;> (first | (symm; decide) | skip)
    split <;> (symm; decide)
  · by_cases h2 : 72 < x
    · have h3 : 73 ≤ x := h.mpr h2
      simp only [h1, h2, h3, not_true, not_false_eq_true, and_false, if_false, decide_true, decide_false, Bool.not_true, Bool.not_false, Bool.and_false]
      split <;> (first | (symm; decide) | skip)
      split <;> (symm; decide)
    · have h3 : ¬ 73 ≤ x := fun q => h2 (h.mp q)
      simp [h1, h2, h3]
theorem kd_2 (x : Int32) : kd x = 2 ↔ x = 47 := by
  constructor
  · intro h
    unfold kd at h
    split at h
    · exact absurd h (by decide)
    · split at h
      · exact absurd h (by decide)
      · split at h
        · assumption
        · split at h <;> exact absurd h (by decide)
  · intro h; subst h; decide
theorem kd_3 (x : Int32) : kd x = 3 ↔ x = 115 := by
  constructor
  · intro h
    unfold kd at h
    split at h
    · exact absurd h (by decide)
    · split at h
      · exact absurd h (by decide)
      · split at h
        · exact absurd h (by decide)
        · split at h
          · assumption
          · exact absurd h (by decide)
  · intro h; subst h; decide
theorem kd_all (x : Int32) : kd x = 0 ∨ kd x = 1 ∨ kd x = 2 ∨ kd x = 3 ∨ kd x = 4 := by
  unfold kd
  split
  · simp
  · split
    · simp
    · split
      · simp
      · split <;> simp
def ft (x : Int32) (w : Bool) : Bool := if w then iB x 97 104 else (iB x 97 104 || decide (x = 47) || decide (x = 115) || iB x 65 72)
theorem ft_bad (x : Int32) (w : Bool) : bad x w = !ft x w := by
  unfold bad ft
  cases w with
  | true => simp [kd_1]
  | false =>
    by_cases h1 : kd x = 1
    · have h2 : iB x 97 104 = true := by rw [kd_1]; simp [h1]
      simp [h1, h2]
    · have h2 : iB x 97 104 = false := by rw [kd_1]; simp [h1]
      rw [h2, kd_4 x h1]
      rcases kd_all x with h | h | h | h | h
      · have a1 : ¬ x = 47 := fun q => by rw [(kd_2 x).mpr q] at h; exact absurd h (by decide)
        have a2 : ¬ x = 115 := fun q => by rw [(kd_3 x).mpr q] at h; exact absurd h (by decide)
        simp [h, a1, a2]
      · exact absurd h h1
      · rw [(kd_2 x).mp h]; decide
      · rw [(kd_3 x).mp h]; decide
      · simp [h]
theorem mk_t {p : Nat → Bool} {i : Nat} (h : p i = true) : mk p (i + 1) = mk p i ||| on i := by rw [mk, if_pos h]
theorem mk_f {p : Nat → Bool} {i : Nat} (h : p i = false) : mk p (i + 1) = mk p i := by rw [mk, h]; rfl
theorem or0 (x : Int32) : x ||| 0 = x := by simp
