section OPS5
variable {L : Nat} {xs : Nat → Int32} {σ : px_Sg}
/-- the reign's end, told by the class's numbers, and by the reference's -/
def RR (σ : px_Sg) (n : Nat) : Int32 × Nat × TS := rgn (σ 2) (σ 3) (σ 4) (σ 6) (σ 38) n 0 false 0 (σ 5, σ 1 8, σ 1 9, 0, 0, 0)
def RM (σ : px_Sg) (n : Nat) : Int32 × Nat × TS := rgn (σ 41) (σ 42) (σ 43) (σ 45) (σ 48) n 0 false 0 (σ 44, σ 40 5, σ 40 6, 0, 0, 0)
theorem RM_RR (hR : Rel σ) (n : Nat) : RM σ n = RR σ n := by
  obtain ⟨r1, r2, ⟨e1, e2, e3, e4, e5, e6⟩, r4, r5, r6, r7, r8, r9, r10⟩ := hR
  unfold RM RR
  rw [e1, e2, e3, e4, e5, r4, r5, r8]
theorem RM_eq {σ' : px_Sg} (h : ∀ k, 40 ≤ k → σ' k = σ k) (n : Nat) : RM σ' n = RM σ n := by
  unfold RM
  rw [h 40 (by omega), h 41 (by omega), h 42 (by omega), h 43 (by omega), h 44 (by omega), h 45 (by omega), h 48 (by omega)]
def gC (σ σ' : px_Sg) : Prop := (∀ k, k ≠ 0 → ¬ (10 ≤ k ∧ k ≤ 18) → σ' k = σ k) ∧ (∀ j, j ≠ 8 → j ≠ 9 → σ' 0 j = σ 0 j) ∧ σ' 11 = σ 2 ∧ σ' 12 = σ 3 ∧ σ' 13 = σ 4 ∧ σ' 15 = σ 6 ∧ σ' 16 = σ 7 ∧ σ' 17 = σ 8 ∧ σ' 18 = σ 9 ∧ σ' 10 10 = σ 1 10 ∧ σ' 10 11 = σ 1 11
theorem gC.Sm {σ' : px_Sg} (h : gC σ σ') : Sm σ σ' := by
  have e := h.1 40 (by decide) (by omega)
  exact ⟨fun k hk => h.1 k (by omega) (by omega), h.2.1 6 (by decide) (by decide), h.2.1 7 (by decide) (by decide), by rw [e], by rw [e], by rw [e], by rw [e]⟩
theorem s_try0_o {k : Nat} (h0 : k ≠ 0) (h : ¬ (10 ≤ k ∧ k ≤ 18)) : s_try0 σ k = σ k := by
  simp [s_try0, s_copy_10_1, px_up, h0, show k ≠ 10 by omega, show k ≠ 11 by omega, show k ≠ 12 by omega, show k ≠ 13 by omega, show k ≠ 14 by omega, show k ≠ 15 by omega, show k ≠ 16 by omega, show k ≠ 17 by omega, show k ≠ 18 by omega]
theorem X_try {n : Nat} (hn : σ 37 1 = nI n) (h60 : n ≤ 60) (hf : fau (σ 38) n 0 false = -6) (hz : σ 1 9 = 0 ∨ σ 1 9 = 1) : ∃ σ1, px_E L xs mX2_tryReign [.ref 0] σ none σ1 ∧ rC σ1 (RR σ n).2.2 ∧ σ1 0 8 = (RR σ n).1 ∧ σ1 0 9 = cI (RR σ n).2.1 ∧ gC σ σ1 := by
  have e2 : s_try0 σ 11 = σ 2 := by simp [s_try0, s_copy_10_1, px_up]
  have e3 : s_try0 σ 12 = σ 3 := by simp [s_try0, s_copy_10_1, px_up]
  have e4 : s_try0 σ 13 = σ 4 := by simp [s_try0, s_copy_10_1, px_up]
  have e6 : s_try0 σ 15 = σ 6 := by simp [s_try0, s_copy_10_1, px_up]
  have e38 : s_try0 σ 38 = σ 38 := s_try0_o (by decide) (by omega)
  have hX : rC (s_try0 σ) (σ 5, σ 1 8, σ 1 9, 0, 0, 0) := ⟨by simp [s_try0, s_copy_10_1, px_up], by simp [s_try0, s_copy_10_1, px_up, upd], by simp [s_try0, s_copy_10_1, px_up, upd], by simp [s_try0, s_copy_10_1, px_up, upd], by simp [s_try0, s_copy_10_1, px_up, upd], by simp [s_try0, s_copy_10_1, px_up, upd]⟩
  have hp : px_P L xs mX2_tryReign [.ref 0] σ (fun r σ1 => r = none ∧ rC σ1 (RR σ n).2.2 ∧ σ1 0 8 = (RR σ n).1 ∧ σ1 0 9 = cI (RR σ n).2.1 ∧ gC σ σ1) := by
    refine try_0 σ hn h60 hf hz ?_
    refine try_all h60 n 0 false 0 (σ 5, σ 1 8, σ 1 9, 0, 0, 0) (s_try0 σ) (by rw [s_try0_o (by decide) (by omega)]; exact hn) (by omega) (by rw [e38]; exact hf) hX (by simp [s_try0, px_up, upd]) (by simp [s_try0, px_up, upd, cI]) ?_
    rw [e2, e3, e4, e6, e38]
    intro σ' a1 a2 a3 ⟨f1, f2, f3, f4⟩
    refine ⟨σ', rfl, rfl, a1, a2, a3, fun k h0 h1 => ?_, fun j h0 h1 => ?_, ?_, ?_, ?_, ?_, ?_, ?_, ?_, ?_, ?_⟩
    · rw [f1 k h0 (by omega) (by omega), s_try0_o h0 h1]
    · rw [f4 j h0 h1]; simp [s_try0, s_copy_10_1, px_up, upd, h0, h1]
    · rw [f1 11 (by decide) (by decide) (by decide), e2]
    · rw [f1 12 (by decide) (by decide) (by decide), e3]
    · rw [f1 13 (by decide) (by decide) (by decide), e4]
    · rw [f1 15 (by decide) (by decide) (by decide), e6]
    · rw [f1 16 (by decide) (by decide) (by decide)]; simp [s_try0, s_copy_10_1, px_up]
    · rw [f1 17 (by decide) (by decide) (by decide)]; simp [s_try0, s_copy_10_1, px_up]
    · rw [f1 18 (by decide) (by decide) (by decide)]; simp [s_try0, s_copy_10_1, px_up]
    · rw [f2]; simp [s_try0, s_copy_10_1, px_up, upd]
    · rw [f3]; simp [s_try0, s_copy_10_1, px_up, upd]
  obtain ⟨v, σ1, h1, rfl, h2⟩ := hp.E
  exact ⟨σ1, h1, h2⟩
theorem M_go {n : Nat} (hn : σ 40 10 = nI n) (h60 : n ≤ 60) (hf : fau (σ 48) n 0 false = -6) (hok : okX (σ 41) (σ 42) (σ 43) (σ 45) (σ 44, σ 40 5, σ 40 6, 0, 0, 0)) : ∃ σ1, px_E L xs mX3_goReign [.ref 40] σ (some (.int (if (RM σ n).1 = 0 then -6 else cI (RM σ n).2.1))) σ1 ∧ rM σ1 (RM σ n).2.2 ∧ okX (σ 41) (σ 42) (σ 43) (σ 45) (RM σ n).2.2 ∧ σ1 40 19 = cI (RM σ n).2.1 ∧ (¬ (RM σ n).1 = 0 → σ1 40 18 = (RM σ n).1) ∧ fM σ σ1 := by
  have ho : ∀ k, k ≠ 40 → k ≠ 49 → s_go0 σ k = σ k := fun k a b => by simp [s_go0, px_up, a, asN_o σ a b]
  have hX : rM (s_go0 σ) (σ 44, σ 40 5, σ 40 6, 0, 0, 0) := ⟨fun k hk => by simp [s_go0, px_up, asN_49, cpn, hk], by simp [s_go0, px_up, upd, asN_13], by simp [s_go0, px_up, upd, asN_14], by simp [s_go0, px_up, upd, asN_15], by simp [s_go0, px_up, upd, asN_17], by simp [s_go0, px_up, upd, asN_16]⟩
  have hfm : fM σ (s_go0 σ) := ⟨ho, fun j hj => by simp [s_go0, s_asNow, px_up, upd, show j ≠ 19 by omega, show j ≠ 13 by omega, show j ≠ 14 by omega, show j ≠ 15 by omega, show j ≠ 16 by omega, show j ≠ 17 by omega]⟩
  have hp : px_P L xs mX3_goReign [.ref 40] σ (fun r σ1 => r = some (.int (if (RM σ n).1 = 0 then -6 else cI (RM σ n).2.1)) ∧ rM σ1 (RM σ n).2.2 ∧ okX (σ 41) (σ 42) (σ 43) (σ 45) (RM σ n).2.2 ∧ σ1 40 19 = cI (RM σ n).2.1 ∧ (¬ (RM σ n).1 = 0 → σ1 40 18 = (RM σ n).1) ∧ fM σ σ1) := by
    refine go_0 σ ?_
    have e1 := ho 41 (by decide) (by decide)
    have e2 := ho 42 (by decide) (by decide)
    have e3 := ho 43 (by decide) (by decide)
    have e5 := ho 45 (by decide) (by decide)
    have e8 := ho 48 (by decide) (by decide)
    refine go_all h60 n n (Nat.le_refl _) 0 0 (σ 44, σ 40 5, σ 40 6, 0, 0, 0) (s_go0 σ) (by rw [hfm.2 10 (by decide)]; exact hn) (by omega) (by rw [e8]; exact hf) hX (by rw [e1, e2, e3, e5]; exact hok) (by simp [s_go0, px_up, upd, cI]) ?_
    unfold goR
    rw [e1, e2, e3, e5, e8]
    intro σ' a1 a2 a3 a4 a5
    exact ⟨σ', rfl, rfl, a1, a2, a3, a4, hfm.tr a5⟩
  obtain ⟨v, σ1, h1, rfl, h2⟩ := hp.E
  exact ⟨σ1, h1, h2⟩
theorem fau_neg (sg : Nat → Int32) : ∀ (d i : Nat) (w : Bool), i + d ≤ 1000 → (fau sg d i w = -6 ∨ ¬ fau sg d i w < 0)
  | 0, i, w, h => by
    rw [fau]
    cases w
    · exact Or.inl rfl
    · right; show ¬ cI i < 0; rw [cI_n]; exact nI_pos (by omega)
  | d + 1, i, w, h => by
    rw [fau]
    split
    · right; rw [cI_n]; exact nI_pos (by omega)
    · exact fau_neg sg d (i + 1) _ (by omega)
theorem fM.Sm {σ' : px_Sg} (h : fM σ σ') : Sm σ σ' := ⟨fun k hk => h.1 k (by omega) (by omega), by rw [h.1 0 (by decide) (by decide)], by rw [h.1 0 (by decide) (by decide)], h.2 5 (by decide), h.2 6 (by decide), h.2 8 (by decide), h.2 10 (by decide)⟩
theorem Rel.ok (hR : Rel σ) : okX (σ 41) (σ 42) (σ 43) (σ 45) (σ 44, σ 40 5, σ 40 6, 0, 0, 0) := by
  obtain ⟨r1, r2, ⟨e1, e2, e3, e4, e5, e6⟩, r4, r5, r6, r7, r8, r9, r10⟩ := hR
  unfold okX
  rw [e1, e2, e3, e5]
  show WFc (σ 2) (σ 3) (σ 4) (σ 44) (σ 6) (σ 40 5) (σ 40 6)
  rw [e4, r4, r5]
  exact r1
theorem cI_nlt {i : Nat} (h : i < 2147483648) : ¬ cI i < 0 := by rw [cI_n]; exact nI_pos h
theorem rgn_st (h u g n sg : Nat → Int32) : ∀ (d i : Nat) (w : Bool) (st : Nat) (X : TS), (rgn h u g n sg d i w st X).2.1 ≤ st + d
  | 0, _, _, st, _ => Nat.le_refl _
  | d + 1, i, w, st, X => by
    rw [rgn]
    split
    · have := rgn_st h u g n sg d (i + 1) true st X; omega
    · split
      · have := rgn_st h u g n sg d (i + 1) false (st + 1) (stp h u g n (knd (sg i) w) (nbn (sg i)) X); omega
      · show st ≤ _; omega
theorem RM_st (n : Nat) : (RM σ n).2.1 ≤ n := by have := rgn_st (σ 41) (σ 42) (σ 43) (σ 45) (σ 48) n 0 false 0 (σ 44, σ 40 5, σ 40 6, 0, 0, 0); unfold RM; omega
theorem rsn_5 (h u g n : Nat → Int32) (kn k : Nat) (X : TS) : ¬ rsn h u g n kn k X = -5 := by
  unfold rsn
  split
  · unfold wP
    split
    · decide
    · split
      · decide
      · split <;> decide
  · unfold wO
    split <;> decide
  · decide
  · unfold wM
    split
    · decide
    · split <;> decide
theorem rgn_5 (h u g n sg : Nat → Int32) : ∀ (d i : Nat) (w : Bool) (st : Nat) (X : TS), ¬ (rgn h u g n sg d i w st X).1 = -5
  | 0, _, _, _, _ => by
    show ¬ (0 : Int32) = -5
    decide
  | d + 1, i, w, st, X => by
    rw [rgn]
    split
    · exact rgn_5 h u g n sg d (i + 1) true st X
    · split
      · exact rgn_5 h u g n sg d (i + 1) false (st + 1) _
      · exact rsn_5 h u g n _ _ X
theorem RR_5 (n : Nat) : ¬ (RR σ n).1 = -5 := rgn_5 _ _ _ _ _ _ _ _ _ _
theorem s_tryF_o {k : Nat} (h0 : k ≠ 0) (h : ¬ (10 ≤ k ∧ k ≤ 18)) : s_tryF σ k = σ k := by
  simp [s_tryF, s_copy_10_1, px_up, h0, show k ≠ 10 by omega, show k ≠ 11 by omega, show k ≠ 12 by omega, show k ≠ 13 by omega, show k ≠ 14 by omega, show k ≠ 15 by omega, show k ≠ 16 by omega, show k ≠ 17 by omega, show k ≠ 18 by omega]
theorem s_tryF_8 : s_tryF σ 0 8 = -5 := by simp [s_tryF, px_up, upd]
theorem s_tryF_Sm (σ : px_Sg) : Sm σ (s_tryF σ) := by
  have e : s_tryF σ 40 = σ 40 := s_tryF_o (by decide) (by omega)
  exact ⟨fun k hk => s_tryF_o (by omega) (by omega), by simp [s_tryF, s_copy_10_1, px_up, upd], by simp [s_tryF, s_copy_10_1, px_up, upd], by rw [e], by rw [e], by rw [e], by rw [e]⟩
theorem o_judge (hR : Rel σ) (q : Int32) : Op L xs mX2_judge mX3_judge [.int q] σ := by
  obtain ⟨n, n1, n2, n3⟩ := hR.2.2.2.2.2.2.1
  have h48 := hR.2.2.2.2.2.2.2.1
  have hz : σ 1 9 = 0 ∨ σ 1 9 = 1 := hR.1.2.2.2.2.2.1
  cases hv : i2 q with
  | false => exact ⟨_, σ, σ, tX_judge0 σ q hv, tM_judge0 σ q hv, hR⟩
  | true =>
    rcases fau_neg (σ 38) n 0 false (by omega) with hf | hf
    · obtain ⟨σ1, t1, t2, t3, t4, t5⟩ := X_try (L := L) (xs := xs) n2 n1 hf hz
      have hR1 := hR.sm t5.Sm
      have e40 := t5.1 40 (by decide) (by omega)
      have e48 := t5.1 48 (by decide) (by omega)
      have e38 := t5.1 38 (by decide) (by omega)
      have hM : RM σ1 n = RR σ n := by rw [RM_eq (σ := σ) (fun k hk => t5.1 k (by omega) (by omega)), RM_RR hR]
      obtain ⟨σ2, g1, g2, g3, g4, g5, g6⟩ := M_go (L := L) (xs := xs) (σ := σ1) (n := n) (by rw [e40]; exact n3) n1 (by rw [e48, h48]; exact hf) hR1.ok
      have hf2 : fau (σ1 48) n 0 false < 0 := by rw [e48, h48, hf]; decide
      refine Op.of (tX_judge σ t1 (by rw [t3]; exact RR_5 n) q hv) (tM_judge σ1 (n := n) (by rw [e40]; exact n3) n1 hf2 g1 q hv) ?_ (hR1.sm g6.Sm)
      have hst := RM_st (σ := σ1) n
      rw [hM] at g4 g5 hst ⊢
      rw [t3, t4]
      by_cases h0 : (RR σ n).1 = 0
      · simp only [h0, if_true]
        rw [if_pos (by decide)]
      · simp only [h0, if_false]
        rw [if_neg (cI_nlt (by omega)), g5 h0]
    · have h6 : ¬ fau (σ 38) n 0 false = -6 := fun z => hf (by rw [z]; decide)
      have o40 : s_tryF σ 40 = σ 40 := s_tryF_o (by decide) (by omega)
      have o48 : s_tryF σ 48 = σ 48 := s_tryF_o (by decide) (by omega)
      exact Op.of (tX_judgeF σ (tX_tryF σ n2 n1 h6 hz) s_tryF_8 q hv) (tM_judgeF (s_tryF σ) (n := n) (by rw [o40]; exact n3) n1 (by rw [o48, h48]; exact hf) q hv) rfl (hR.sm (s_tryF_Sm σ))
/-- both sides' answers to: can the reign be? -/
theorem both_can (hR : Rel σ) : (∃ σ1, px_E L xs mX2_tryReign [.ref 0] σ none σ1 ∧ ¬ σ1 0 8 = 0 ∧ px_E L xs mX3_barOfReign [.ref 40] σ1 (some (.int (-5))) σ1 ∧ Rel σ1) ∨
    ∃ n σ1, σ 37 1 = nI n ∧ gC σ σ1 ∧ rC σ1 (RR σ n).2.2 ∧ σ1 0 9 = cI (RR σ n).2.1 ∧ okX (σ 2) (σ 3) (σ 4) (σ 6) (RR σ n).2.2 ∧ ((px_E L xs mX2_tryReign [.ref 0] σ none σ1 ∧ ¬ σ1 0 8 = 0 ∧ ∀ σ', (∀ k, 40 ≤ k → σ' k = σ k) → ∃ σ2, px_E L xs mX3_barOfReign [.ref 40] σ' (some (.int (-5))) σ2 ∧ fM σ' σ2) ∨
      (px_E L xs mX2_tryReign [.ref 0] σ none σ1 ∧ σ1 0 8 = 0 ∧ ∀ σ', (∀ k, 40 ≤ k → σ' k = σ k) → ∃ σ2, px_E L xs mX3_barOfReign [.ref 40] σ' (some (.int 0)) σ2 ∧ fM σ' σ2 ∧ rM σ2 (RR σ n).2.2 ∧ σ2 40 19 = cI (RR σ n).2.1)) := by
  obtain ⟨n, n1, n2, n3⟩ := hR.2.2.2.2.2.2.1
  have h48 := hR.2.2.2.2.2.2.2.1
  have hz : σ 1 9 = 0 ∨ σ 1 9 = 1 := hR.1.2.2.2.2.2.1
  obtain ⟨e1, e2, e3, e4, e5, e6⟩ := hR.2.2.1
  rcases fau_neg (σ 38) n 0 false (by omega) with hf | hf
  · right
    obtain ⟨σ1, t1, t2, t3, t4, t5⟩ := X_try (L := L) (xs := xs) n2 n1 hf hz
    have hM := RM_RR hR n
    have key : ∀ σ', (∀ k, 40 ≤ k → σ' k = σ k) → ∃ σ2, px_E L xs mX3_barOfReign [.ref 40] σ' (some (.int (if (RR σ n).1 = 0 then 0 else -5))) σ2 ∧ fM σ' σ2 ∧ rM σ2 (RR σ n).2.2 ∧ σ2 40 19 = cI (RR σ n).2.1 ∧ okX (σ 2) (σ 3) (σ 4) (σ 6) (RR σ n).2.2 := fun σ' hs => by
      have hM' : RM σ' n = RR σ n := by rw [RM_eq (σ := σ) hs, hM]
      obtain ⟨σ2, g1, g2, g3, g4, g5, g6⟩ := M_go (L := L) (xs := xs) (σ := σ') (n := n) (by rw [hs 40 (by omega)]; exact n3) n1 (by rw [hs 48 (by omega), h48]; exact hf) (by rw [hs 40 (by omega), hs 41 (by omega), hs 42 (by omega), hs 43 (by omega), hs 44 (by omega), hs 45 (by omega)]; exact hR.ok)
      have hst := RM_st (σ := σ') n
      rw [hM'] at g1 g2 g3 g4 g5 hst
      have hb := tM_bar1 (L := L) (xs := xs) σ' (n := n) (by rw [hs 40 (by omega)]; exact n3) n1 (by rw [hs 48 (by omega), h48, hf]; decide) g1
      refine ⟨σ2, ?_, g6, g2, g4, ?_⟩
      · by_cases h0 : (RR σ n).1 = 0
        · simp only [h0, if_true] at hb ⊢
          rw [if_pos (by decide)] at hb
          exact hb
        · simp only [h0, if_false] at hb ⊢
          rw [if_neg (cI_nlt (by omega))] at hb
          exact hb
      · rw [hs 41 (by omega), hs 42 (by omega), hs 43 (by omega), hs 45 (by omega), e1, e2, e3, e5] at g3
        exact g3
    obtain ⟨-, -, -, -, -, hokk⟩ := key σ (fun _ _ => rfl)
    refine ⟨n, σ1, n2, t5, t2, t4, hokk, ?_⟩
    by_cases h0 : (RR σ n).1 = 0
    · right
      refine ⟨t1, by rw [t3]; exact h0, fun σ' hs => ?_⟩
      obtain ⟨σ2, k1, k2, k3, k4, -⟩ := key σ' hs
      rw [if_pos h0] at k1
      exact ⟨σ2, k1, k2, k3, k4⟩
    · left
      refine ⟨t1, by rw [t3]; exact h0, fun σ' hs => ?_⟩
      obtain ⟨σ2, k1, k2, k3, k4, -⟩ := key σ' hs
      rw [if_neg h0] at k1
      exact ⟨σ2, k1, k2⟩
  · left
    have h6 : ¬ fau (σ 38) n 0 false = -6 := fun z => hf (by rw [z]; decide)
    have o40 : s_tryF σ 40 = σ 40 := s_tryF_o (by decide) (by omega)
    have o48 : s_tryF σ 48 = σ 48 := s_tryF_o (by decide) (by omega)
    exact ⟨s_tryF σ, tX_tryF σ n2 n1 h6 hz, by rw [s_tryF_8]; decide, tM_bar0 (s_tryF σ) (n := n) (by rw [o40]; exact n3) n1 (by rw [o48, h48]; exact hf), hR.sm (s_tryF_Sm σ)⟩
theorem o_behind (hR : Rel σ) (q : Int32) : Op L xs mX2_behind mX3_behind [.int q] σ := by
  cases h : iB q 0 5 with
  | false => exact ⟨_, σ, σ, tX_behind0 σ q h, tM_behind0 σ q h, hR⟩
  | true =>
    obtain ⟨k, hk, rfl⟩ := iB_lit 5 (by decide) h
    rcases both_can (L := L) (xs := xs) hR with ⟨σ1, a, h8, b, hR1⟩ | ⟨n, σ1, -, g, c, -, hok, hh⟩
    · match k, hk with
      | 0, _ => exact ⟨_, _, _, tX_behindN0 σ a h8, tM_behindN0 σ1 b, hR1⟩
      | 1, _ => exact ⟨_, _, _, tX_behindN1 σ a h8, tM_behindN1 σ1 b, hR1⟩
      | 2, _ => exact ⟨_, _, _, tX_behindN2 σ a h8, tM_behindN2 σ1 b, hR1⟩
      | 3, _ => exact ⟨_, _, _, tX_behindN3 σ a h8, tM_behindN3 σ1 b, hR1⟩
      | 4, _ => exact ⟨_, _, _, tX_behindN4 σ a h8, tM_behindN4 σ1 b, hR1⟩
      | 5, _ => exact ⟨_, _, _, tX_behindN5 σ a h8, tM_behindN5 σ1 b, hR1⟩
    · have hR1 := hR.sm g.Sm
      obtain ⟨e1, e2, e3, e4, e5, e6⟩ := hR1.2.2.1
      rcases hh with ⟨a, h8, b⟩ | ⟨a, h8, b⟩
      · obtain ⟨σ2, b1, b2⟩ := b σ1 (fun k hk => g.1 k (by omega) (by omega))
        have hR2 := hR1.sm b2.Sm
        match k, hk with
        | 0, _ => exact ⟨_, _, _, tX_behindN0 σ a h8, tM_behindN0 σ1 b1, hR2⟩
        | 1, _ => exact ⟨_, _, _, tX_behindN1 σ a h8, tM_behindN1 σ1 b1, hR2⟩
        | 2, _ => exact ⟨_, _, _, tX_behindN2 σ a h8, tM_behindN2 σ1 b1, hR2⟩
        | 3, _ => exact ⟨_, _, _, tX_behindN3 σ a h8, tM_behindN3 σ1 b1, hR2⟩
        | 4, _ => exact ⟨_, _, _, tX_behindN4 σ a h8, tM_behindN4 σ1 b1, hR2⟩
        | 5, _ => exact ⟨_, _, _, tX_behindN5 σ a h8, tM_behindN5 σ1 b1, hR2⟩
      · obtain ⟨σ2, b1, b2, b3, b4⟩ := b σ1 (fun k hk => g.1 k (by omega) (by omega))
        have hR2 := hR1.sm b2.Sm
        obtain ⟨c1, c2, c3, c4, c5, c6⟩ := c
        obtain ⟨d1, d2, d3, d4, d5, d6⟩ := b3
        have f1 : σ2 41 = σ1 11 := by rw [b2.1 41 (by decide) (by decide), e1, g.2.2.1]; exact g.1 2 (by decide) (by omega)
        have f3 : σ2 43 = σ1 13 := by rw [b2.1 43 (by decide) (by decide), e3, g.2.2.2.2.1]; exact g.1 4 (by decide) (by omega)
        have fd : dS (σ2 41) (σ2 49) = dS (σ1 11) (σ1 14) := by rw [f1, c1]; exact dS_congr d1
        match k, hk with
        | 0, _ => exact Op.of (tX_behind_0 σ a h8) (tM_behind_0 σ1 b1) (by rw [fd]) hR2
        | 1, _ => exact Op.of (tX_behind_1 σ a h8) (tM_behind_1 σ1 b1) (by rw [fd, f3]) hR2
        | 2, _ => exact Op.of (tX_behind_2 σ a h8) (tM_behind_2 σ1 b1) (by rw [d2, c2]) hR2
        | 3, _ =>
          refine Op.of (tX_behind_3 σ a h8) (tM_behind_3 σ1 b1) ?_ hR2
          rw [d3, c3]
          rcases okX_z hok with q | q <;> rw [q] <;> rfl
        | 4, _ => exact Op.of (tX_behind_4 σ a h8) (tM_behind_4 σ1 b1) (by rw [d4, c4]) hR2
        | 5, _ => exact Op.of (tX_behind_5 σ a h8) (tM_behind_5 σ1 b1) (by rw [d6, c6]) hR2
end OPS5
