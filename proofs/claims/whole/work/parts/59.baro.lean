section OPS11
variable {L : Nat} {xs : Nat → Int32} {σ : px_Sg}
theorem bt_bS' {p : Nat → Int32} {i : Nat} (hi : i < 32) : bt (bS p) i = (decide (i < 8) && !decide (p i ≤ 0)) := bt_mk _ 8 (by omega) i hi
/-- a part not begun falls alone -/
theorem fall_less {h u g n p : Nat → Int32} {f z : Int32} (w : WFc h u g p n f z) {s : Int32} {k : Nat} (hk : k < 8) (hn : bt (bS p) k = false) : (dS h p &&& (abS u (s &&& (on k ^^^ -1)) ^^^ -1)) = (dS h p &&& (abS u s ^^^ -1)) := by
  obtain ⟨w1, w2, w3, w4, w5, w6, w7, -⟩ := w
  have hd : ∀ j, j < 8 → bt (dS h p) j = true → ¬ p j = 0 := fun j hj hx z => by
    rw [bt_dS (by omega), Bool.and_eq_true, decide_eq_true_eq, decide_eq_true_eq] at hx
    obtain ⟨a, b, q1, q2, q3, q4, q5⟩ := w1 j hj
    rw [← hx.2, z] at q1
    have := (nI_eq (a := 0) (b := a) (by omega) (by omega)).mp q1
    omega
  have hkd : bt (dS h p) k = false := by
    cases hx : bt (dS h p) k with
    | false => rfl
    | true =>
      exfalso
      have h1 := hd k hk hx
      obtain ⟨a, b, q1, q2, q3, q4, q5⟩ := w1 k hk
      rw [bt_bS' (by omega)] at hn
      simp only [hk, decide_true, Bool.true_and, Bool.not_eq_false', decide_eq_true_eq] at hn
      rw [q4] at h1 hn
      rcases Nat.eq_zero_or_pos b with r | r
      · exact h1 (by rw [r]; rfl)
      · exact absurd hn (nI_ge (b := b) (a := 0) r (by omega))
  -- what falls with s, and is done, falls with the lesser set
  have key : ∀ i, i < 32 → bt (abS u s) i = true → (bt (abS u (s &&& (on k ^^^ -1))) i || !bt (dS h p) i) = true := by
    refine ab_least (T := fun i => bt (abS u (s &&& (on k ^^^ -1))) i || !bt (dS h p) i) (fun i hi hx => ?_) (fun j hj i hi h1 h2 => ?_) 8 (by omega)
    · by_cases e : i = k
      · subst e; simp [hkd]
      · have : bt (abS u (s &&& (on k ^^^ -1))) i = true := abS_in hi (by rw [b_and, bt_not _ hi, on_bt k hk i hi]; simp [e, hx])
        rw [this, Bool.true_or]
    · rw [Bool.or_eq_true] at h2 ⊢
      rcases h2 with h2 | h2
      · exact Or.inl (abS_up hj (w2 j hj) hi h1 h2)
      · right
        cases hx : bt (dS h p) j with
        | false => rfl
        | true =>
          have := (sub_iff _ _).mp (w7 j hj (hd j hj hx)) i hi h1
          rw [this] at h2; exact h2
  have mono : ∀ i, i < 32 → bt (abS u (s &&& (on k ^^^ -1))) i = true → bt (abS u s) i = true := by
    refine ab_least (T := fun i => bt (abS u s) i) (fun i hi hx => ?_) (fun j hj i hi h1 h2 => abS_up hj (w2 j hj) hi h1 h2) 8 (by omega)
    rw [b_and, Bool.and_eq_true] at hx
    exact abS_in hi hx.1
  apply b_ext
  intro i hi
  rw [b_and, b_and, bt_not _ hi, bt_not _ hi]
  cases h1 : bt (dS h p) i with
  | false => rw [Bool.false_and, Bool.false_and]
  | true =>
    have k1 := key i hi
    have k2 := mono i hi
    rw [h1] at k1
    clear key mono hd hkd w1 w2 w3 w4 w5 w6 w7
    generalize bt (abS u s) i = x at k1 k2 ⊢
    generalize bt (abS u (s &&& (on k ^^^ -1))) i = y at k1 k2 ⊢
    cases x with
    | false =>
      cases y with
      | false => rfl
      | true => exact absurd (k2 rfl) (by decide)
    | true =>
      cases y with
      | false => exact absurd (k1 rfl) (by decide)
      | true => rfl
theorem lo8_nI {m : Nat} (hm : m < 256) : lo 8 (nI m) := by
  intro i h1 h2
  show (Int32.ofNat m).toBitVec.getLsbD i = false
  rw [show (Int32.ofNat m).toBitVec = BitVec.ofNat 32 m from rfl, BitVec.getLsbD_ofNat, Nat.testBit_lt_two_pow (Nat.lt_of_lt_of_le (show m < 2 ^ 8 by omega) (Nat.pow_le_pow_right (by omega) h1))]
  simp
theorem br_same (hR : Rel σ) {a : Nat} (ha : a < 8) : bst pc8 (brQ (σ 42) (σ 43) (σ 45) (σ 44) (dS (σ 41) (σ 44)) a) 256 = bst bc (brP (σ 3) (σ 4) (σ 6) (dS (σ 2) (σ 5)) a) 256 := by
  obtain ⟨e1, e2, e3, e4, e5, e6⟩ := hR.2.2.1
  rw [e1, e2, e3, e4, e5]
  refine bst_sub (fun k hk => ?_) (fun k hk h => ?_) (fun m hm hP hmin => ?_)
  · rw [cI_n]; exact bc_pcn k hk
  · unfold brQ at h; rw [Bool.and_eq_true] at h; exact h.2
  · unfold brQ
    rw [hP, Bool.and_true, decide_eq_true_eq]
    refine (sub_iff _ _).mpr fun i hi h1 => ?_
    cases h2 : bt (bS (σ 5)) i with
    | true => rfl
    | false =>
      exfalso
      rw [cI_n] at h1
      have h8 : i < 8 := by
        rcases Nat.lt_or_ge i 8 with q | q
        · exact q
        · have : bt (nI m) i = false := lo8_nI hm i q hi
          rw [this] at h1; cases h1
      obtain ⟨j, hj, g1, g2⟩ := bc_less m hm i h8 h1
      rw [← cI_n, ← cI_n] at g1 g2
      refine hmin j hj ?_ g2
      unfold brP at hP ⊢
      rw [g1, fall_less hR.1 h8 h2]
      exact hP
theorem o_bar (hR : Rel σ) (p q : Int32) : Op L xs mX2_bar mX3_bar [.int p, .int q] σ := by
  obtain ⟨e1, e2, e3, e4, e5, e6⟩ := hR.2.2.1
  cases h : i8 p with
  | false => exact ⟨_, σ, σ, tX_bar0 σ p q h, uM_bar0 σ p q h, hR⟩
  | true =>
    obtain ⟨k, hk, rfl⟩ := i8_ex h
    cases hv : i2 q with
    | false => exact ⟨_, σ, σ, tX_bar1 σ hk q hv, uM_bar1 σ hk q hv, hR⟩
    | true =>
      cases hg : gB (σ 6) (σ 4) (dS (σ 2) (σ 5)) k with
      | true => exact Op.of (tX_bar σ hk q hv (tX_fb σ hk hg)) (tM_bar σ hk q hv (by rw [e1, e3, e4, e5]; exact hg)) (by rw [few_v (br_same hR hk)]) (hR.sm (asN_Sm σ))
      | false =>
        have hm : px_E L xs mX3_bar [.ref 40, .int (cI k), .int q] σ (some (.int (-6))) (s_asNow σ) := by
          refine bm_0 σ hk q hv ?_
          refine bm_no (s_asNow σ) hk q _ ?_ ⟨rfl, rfl⟩
          rw [asN_49, asN_o σ (k := 41) (by decide) (by decide), asN_o σ (k := 43) (by decide) (by decide), asN_o σ (k := 45) (by decide) (by decide), dS_asN, e1, e3, e4, e5]
          exact hg
        exact Op.of (tX_bar σ hk q hv (tX_fb0 σ hk hg)) hm (by simp) (hR.sm (asN_Sm σ))
end OPS11
