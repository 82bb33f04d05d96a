/-! the least of the best sets -/
theorem bst_spec (c : Int32 → Int32) (P : Int32 → Bool) : ∀ i, i ≤ 256 → (bst c P i = -6 ∧ ∀ k, k < i → P (cI k) = false) ∨ ∃ m, m < i ∧ bst c P i = cI m ∧ P (cI m) = true ∧ (∀ k, k < i → P (cI k) = true → ¬ c (cI k) < c (cI m)) ∧ ∀ k, k < m → P (cI k) = true → c (cI m) < c (cI k)
  | 0, _ => Or.inl ⟨rfl, fun k h => absurd h (by omega)⟩
  | i + 1, hi => by
    rw [bst_s]
    cases hP : P (cI i) with
    | false =>
      rw [Bool.false_and]
      simp only [Bool.false_eq_true, if_false]
      rcases bst_spec c P i (by omega) with ⟨h1, h2⟩ | ⟨m, h1, h2, h3, h4, h5⟩
      · refine Or.inl ⟨h1, fun k hk => ?_⟩
        by_cases e : k = i
        · subst e; exact hP
        · exact h2 k (by omega)
      · refine Or.inr ⟨m, by omega, h2, h3, fun k hk hk2 => ?_, h5⟩
        by_cases e : k = i
        · subst e; rw [hP] at hk2; cases hk2
        · exact h4 k (by omega) hk2
    | true =>
      rw [Bool.true_and]
      rcases bst_spec c P i (by omega) with ⟨h1, h2⟩ | ⟨m, h1, h2, h3, h4, h5⟩
      · rw [h1]
        simp only [decide_true, Bool.true_or, if_true]
        refine Or.inr ⟨i, by omega, rfl, hP, fun k hk hk2 => ?_, fun k hk hk2 => ?_⟩
        · by_cases e : k = i
          · subst e; exact fun z => Int32.lt_irrefl z
          · rw [h2 k (by omega)] at hk2; cases hk2
        · rw [h2 k hk] at hk2; cases hk2
      · rw [h2, decide_eq_false (cI_n6 (i := m) (by omega)), Bool.false_or]
        by_cases hc : c (cI i) < c (cI m)
        · rw [decide_eq_true hc]
          simp only [if_true]
          refine Or.inr ⟨i, by omega, rfl, hP, fun k hk hk2 => ?_, fun k hk hk2 => ?_⟩
          · by_cases e : k = i
            · subst e; exact fun z => Int32.lt_irrefl z
            · have := Int32.not_lt.mp (h4 k (by omega) hk2)
              exact Int32.not_lt.mpr (Int32.le_of_lt (Int32.lt_of_lt_of_le hc this))
          · exact Int32.lt_of_lt_of_le hc (Int32.not_lt.mp (h4 k hk hk2))
        · rw [decide_eq_false hc]
          simp only [Bool.false_eq_true, if_false]
          refine Or.inr ⟨m, by omega, rfl, h3, fun k hk hk2 => ?_, h5⟩
          by_cases e : k = i
          · subst e; exact hc
          · exact h4 k (by omega) hk2
theorem bst_sub {c c' : Int32 → Int32} {P P' : Int32 → Bool} (hc : ∀ k, k < 256 → c (cI k) = c' (cI k)) (hs : ∀ k, k < 256 → P' (cI k) = true → P (cI k) = true) (hm : ∀ m, m < 256 → P (cI m) = true → (∀ k, k < 256 → P (cI k) = true → ¬ c (cI k) < c (cI m)) → P' (cI m) = true) : bst c' P' 256 = bst c P 256 := by
  rcases bst_spec c P 256 (Nat.le_refl _) with ⟨h1, h2⟩ | ⟨m, h1, h2, h3, h4, h5⟩
  · rcases bst_spec c' P' 256 (Nat.le_refl _) with ⟨g1, g2⟩ | ⟨j, g1, g2, g3, g4, g5⟩
    · rw [h1, g1]
    · have := h2 j g1
      rw [hs j g1 g3] at this; cases this
  · have h6 := hm m h1 h3 h4
    rcases bst_spec c' P' 256 (Nat.le_refl _) with ⟨g1, g2⟩ | ⟨j, g1, g2, g3, g4, g5⟩
    · have := g2 m h1
      rw [h6] at this; cases this
    · have k1 := hs j g1 g3
      rw [h2, g2]
      congr 1
      rcases Nat.lt_trichotomy j m with q | q | q
      · have a := h5 j q k1
        have b := g4 m h1 h6
        rw [← hc m h1, ← hc j g1] at b
        exact absurd a b
      · exact q
      · have a := g5 m q h6
        have b := h4 j g1 k1
        rw [← hc m h1, ← hc j g1] at a
        exact absurd a b
theorem ab_least {u : Nat → Int32} {s : Int32} {T : Nat → Bool} (h0 : ∀ i, i < 32 → bt s i = true → T i = true) (hT : ∀ j, j < 8 → ∀ i, i < 32 → bt (u j) i = true → T i = true → T j = true) : ∀ m, m ≤ 8 → ∀ i, i < 32 → bt (ab u s m) i = true → T i = true
  | 0, _, i, hi, h => h0 i hi h
  | m + 1, hm, i, hi, h => by
    have ih := ab_least h0 hT m (by omega)
    rw [ab] at h
    split at h
    · exact ih i hi h
    · rename_i hne
      rw [b_or, on_bt m (by omega) i hi, Bool.or_eq_true, decide_eq_true_eq] at h
      rcases h with h | h
      · exact ih i hi h
      · subst h
        have : ∃ k, k < 32 ∧ bt (u i) k = true ∧ bt (ab u s i) k = true := by
          apply Classical.byContradiction
          intro hn
          refine hne (b_ext fun k hk => ?_)
          rw [b_and, b_0]
          cases a : bt (u i) k with
          | false => rfl
          | true =>
            cases b : bt (ab u s i) k with
            | false => rfl
            | true => exact absurd ⟨k, hk, a, b⟩ hn
        obtain ⟨k, hk, a, b⟩ := this
        exact hT i (by omega) k hk a (ih k hk b)
/-- a bit less is a count less -/
theorem bc_less : ∀ m, m < 256 → ∀ k, k < 8 → bt (nI m) k = true → ∃ j, j < 256 ∧ nI j = (nI m &&& (on k ^^^ -1)) ∧ bc (nI j) < bc (nI m) := by
  have key : ∀ m, m < 256 → ∀ k, k < 8 → bt (nI m) k = true → nI (m - 2 ^ k) = (nI m &&& (on k ^^^ -1)) ∧ bc (nI (m - 2 ^ k)) < bc (nI m) := by decide +kernel
  intro m hm k hk h
  obtain ⟨h1, h2⟩ := key m hm k hk h
  exact ⟨m - 2 ^ k, Nat.lt_of_le_of_lt (Nat.sub_le _ _) hm, h1, h2⟩
