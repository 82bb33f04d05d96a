/-! THE RELATION between the class's numbers and the reference's -/
def zo (n : Nat) (f : Nat → Int32) : Prop := ∀ k, n ≤ k → f k = 0
/-- no bit at or above k -/
def lo (k : Nat) (x : Int32) : Prop := ∀ j, k ≤ j → j < 32 → bt x j = false
def WFc (h u g p n : Nat → Int32) (f s : Int32) : Prop :=
  (∀ k, k < 8 → ∃ a b : Nat, h k = nI a ∧ 1 ≤ a ∧ a ≤ 9 ∧ p k = nI b ∧ b ≤ a) ∧ (∀ k, k < 8 → lo k (u k)) ∧ (∀ k, k < 8 → lo 8 (g k)) ∧ (∀ k, k < 8 → lo 8 (n k)) ∧ lo 8 f ∧ (s = 0 ∨ s = 1) ∧
  (∀ k, k < 8 → ¬ p k = 0 → (u k &&& (dS h p ^^^ -1)) = 0) ∧ zo 8 h ∧ zo 8 u ∧ zo 8 g ∧ zo 8 p ∧ zo 8 n
def SIc (ns : Nat) (ss sa : Nat → Int32) (cl : Int32) (q : Nat → Int32) (off : Nat) : Prop := ∀ i, i < ns → (∃ t : Nat, t ≤ 60 ∧ ss i = nI t) ∧ (∃ a : Nat, a < 8 ∧ sa i = cI a) ∧ q (off + 3 * i) = ss i ∧ q (off + (3 * i + 1)) = sa i ∧ q (off + (3 * i + 2)) = bo (hb cl i)
def Img (σ : px_Sg) (j c off : Nat) : Prop := (σ 0 (6 + j) = 0 ∧ σ 55 j = 0) ∨ (σ 0 (6 + j) = 1 ∧ σ 55 j = 1 ∧ WFc (σ (c + 1)) (σ (c + 2)) (σ (c + 3)) (σ (c + 4)) (σ (c + 5)) (σ c 8) (σ c 9) ∧ zo 4 (σ (c + 8)) ∧
  (∀ k, k < 8 → σ 54 (off + k) = σ (c + 1) k ∧ σ 54 (off + (8 + k)) = σ (c + 2) k ∧ σ 54 (off + (16 + k)) = σ (c + 3) k ∧ σ 54 (off + (24 + k)) = σ (c + 4) k ∧ σ 54 (off + (32 + k)) = σ (c + 5) k) ∧
  (∀ k, k < 4 → σ 54 (off + (64 + k)) = σ (c + 8) k) ∧ σ 54 (off + 70) = σ c 8 ∧ σ 54 (off + 71) = σ c 9 ∧ ∃ ns, ns ≤ 8 ∧ σ c 10 = nI ns ∧ σ 54 (off + 72) = nI ns ∧ SIc ns (σ (c + 6)) (σ (c + 7)) (σ c 11) (σ 54) (off + 40))
def Rel (σ : px_Sg) : Prop := WFc (σ 2) (σ 3) (σ 4) (σ 5) (σ 6) (σ 1 8) (σ 1 9) ∧ zo 4 (σ 9) ∧ (σ 41 = σ 2 ∧ σ 42 = σ 3 ∧ σ 43 = σ 4 ∧ σ 44 = σ 5 ∧ σ 45 = σ 6 ∧ σ 46 = σ 9) ∧ σ 40 5 = σ 1 8 ∧ σ 40 6 = σ 1 9 ∧
  (∃ ns, ns ≤ 8 ∧ σ 1 10 = nI ns ∧ σ 40 8 = nI ns ∧ SIc ns (σ 7) (σ 8) (σ 1 11) (σ 47) 0) ∧ (∃ n, n ≤ 60 ∧ σ 37 1 = nI n ∧ σ 40 10 = nI n) ∧ σ 48 = σ 38 ∧ Img σ 0 19 0 ∧ Img σ 1 28 90
/-- nothing that the relation speaks of has changed -/
def Sm (σ σ' : px_Sg) : Prop := (∀ k, ((1 ≤ k ∧ k ≤ 9) ∨ (19 ≤ k ∧ k ≤ 38) ∨ (41 ≤ k ∧ k ≤ 48) ∨ k = 54 ∨ k = 55) → σ' k = σ k) ∧ σ' 0 6 = σ 0 6 ∧ σ' 0 7 = σ 0 7 ∧ σ' 40 5 = σ 40 5 ∧ σ' 40 6 = σ 40 6 ∧ σ' 40 8 = σ 40 8 ∧ σ' 40 10 = σ 40 10
theorem Sm.rf (σ : px_Sg) : Sm σ σ := ⟨fun _ _ => rfl, rfl, rfl, rfl, rfl, rfl, rfl⟩
theorem Sm.tr {σ σ' σ'' : px_Sg} (a : Sm σ σ') (b : Sm σ' σ'') : Sm σ σ'' := ⟨fun k h => (b.1 k h).trans (a.1 k h), b.2.1.trans a.2.1, b.2.2.1.trans a.2.2.1, b.2.2.2.1.trans a.2.2.2.1, b.2.2.2.2.1.trans a.2.2.2.2.1, b.2.2.2.2.2.1.trans a.2.2.2.2.2.1, b.2.2.2.2.2.2.trans a.2.2.2.2.2.2⟩
theorem Img.sm {σ σ' : px_Sg} {j c off : Nat} (hj : σ' 0 (6 + j) = σ 0 (6 + j)) (h55 : σ' 55 = σ 55) (h54 : σ' 54 = σ 54) (hc : ∀ k, c ≤ k → k ≤ c + 8 → σ' k = σ k) (h : Img σ j c off) : Img σ' j c off := by
  unfold Img at h ⊢
  rw [hj, h55, h54, hc c (by omega) (by omega), hc (c + 1) (by omega) (by omega), hc (c + 2) (by omega) (by omega), hc (c + 3) (by omega) (by omega), hc (c + 4) (by omega) (by omega), hc (c + 5) (by omega) (by omega), hc (c + 6) (by omega) (by omega), hc (c + 7) (by omega) (by omega), hc (c + 8) (by omega) (by omega)]
  exact h
theorem Rel.sm {σ σ' : px_Sg} (h : Rel σ) (s : Sm σ σ') : Rel σ' := by
  obtain ⟨s1, s2, s3, s4, s5, s6, s7⟩ := s
  obtain ⟨r1, r2, r3, r4, r5, r6, r7, r8, r9, r10⟩ := h
  unfold Rel
  rw [s1 1 (by omega), s1 2 (by omega), s1 3 (by omega), s1 4 (by omega), s1 5 (by omega), s1 6 (by omega), s1 7 (by omega), s1 8 (by omega), s1 9 (by omega), s1 37 (by omega), s1 38 (by omega), s1 41 (by omega), s1 42 (by omega), s1 43 (by omega), s1 44 (by omega), s1 45 (by omega), s1 46 (by omega), s1 47 (by omega), s1 48 (by omega), s4, s5, s6, s7]
  exact ⟨r1, r2, r3, r4, r5, r6, r7, r8, r9.sm s2 (s1 55 (by omega)) (s1 54 (by omega)) (fun k h1 h2 => s1 k (by omega)), r10.sm s3 (s1 55 (by omega)) (s1 54 (by omega)) (fun k h1 h2 => s1 k (by omega))⟩
/-- the two answer alike, and the relation holds behind -/
def Op (L : Nat) (xs : Nat → Int32) (MX MM : px_M) (as : List Value) (σ : px_Sg) : Prop := ∃ (v : Value) (σ1 σ2 : px_Sg), px_E L xs MX (.ref 0 :: as) σ (some v) σ1 ∧ px_E L xs MM (.ref 40 :: as) σ1 (some v) σ2 ∧ Rel σ2
def i8 (x : Int32) : Bool := !decide (x < 0) && !decide (8 ≤ x)
def i4 (x : Int32) : Bool := !decide (x < 0) && !decide (4 ≤ x)
def iS (x : Int32) : Bool := !decide (x < 0) && !decide (255 < x)
def i2 (x : Int32) : Bool := decide (x = 0) || decide (x = 1)
theorem lt_succ32 (x c : Int32) (h : c.toInt < 2147483647) : c + 1 ≤ x ↔ c < x := by
  rw [Int32.le_iff_toInt_le, Int32.lt_iff_toInt_lt]
  have h1 : (c + 1).toInt = c.toInt + 1 := by
    rw [Int32.toInt_add]
    have h2 := Int32.le_toInt c
    have h3 : (1 : Int32).toInt = 1 := by decide
    rw [h3]
    rw [Int.bmod_eq_of_le] <;> omega
  rw [h1]
  omega
theorem i8_iB (x : Int32) : iB x 0 7 = i8 x := by
  unfold iB i8
  have := lt_succ32 x 7 (by decide)
  simp only [show (7 : Int32) + 1 = 8 by decide] at this
  simp [this]
theorem i4_iB (x : Int32) : iB x 0 3 = i4 x := by
  unfold iB i4
  have := lt_succ32 x 3 (by decide)
  simp only [show (3 : Int32) + 1 = 4 by decide] at this
  simp [this]
theorem iS_iB (x : Int32) : iB x 0 255 = iS x := rfl
theorem ex_nI {x : Int32} (n : Nat) (hn : n < 2147483648) (h1 : ¬ x < 0) (h2 : x < nI n) : ∃ k, k < n ∧ x = cI k := by
  obtain ⟨j, hj, rfl⟩ := nI_of h1
  exact ⟨j, (nI_ltI hj (by omega)).mp h2, (cI_n j).symm⟩
theorem i8_ex {x : Int32} (h : i8 x = true) : ∃ k, k < 8 ∧ x = cI k := by
  unfold i8 at h
  simp only [Bool.and_eq_true, Bool.not_eq_true', decide_eq_false_iff_not] at h
  exact ex_nI 8 (by decide) h.1 (Int32.not_le.mp h.2)
theorem i4_ex {x : Int32} (h : i4 x = true) : ∃ k, k < 4 ∧ x = cI k := by
  unfold i4 at h
  simp only [Bool.and_eq_true, Bool.not_eq_true', decide_eq_false_iff_not] at h
  exact ex_nI 4 (by decide) h.1 (Int32.not_le.mp h.2)
theorem i8_k : ∀ k, k < 8 → i8 (cI k) = true := by decide +kernel
theorem i4_k : ∀ k, k < 4 → i4 (cI k) = true := by decide +kernel
theorem i2_iB (x : Int32) : iB x 0 1 = i2 x := by
  unfold iB i2
  by_cases h : x < 0
  · have h1 : ¬ x = 0 := fun q => by rw [q] at h; exact absurd h (by decide)
    have h2 : ¬ x = 1 := fun q => by rw [q] at h; exact absurd h (by decide)
    simp [h, h1, h2]
  · by_cases h3 : 1 < x
    · have h1 : ¬ x = 0 := fun q => by rw [q] at h3; exact absurd h3 (by decide)
      have h2 : ¬ x = 1 := fun q => by rw [q] at h3; exact absurd h3 (by decide)
      simp [h3, h1, h2]
    · obtain ⟨k, hk, rfl⟩ := ex_nI 2 (by decide) h (by
        have := Int32.not_lt.mp h3
        rw [Int32.lt_iff_toInt_lt]
        rw [Int32.le_iff_toInt_le] at this
        have e1 : (nI 2).toInt = 2 := by decide
        have e2 : (1 : Int32).toInt = 1 := by decide
        omega)
      match k, hk with
      | 0, _ => decide
      | 1, _ => decide
theorem i2_ex {x : Int32} (h : i2 x = true) : x = 0 ∨ x = 1 := by simpa [i2] using h
