/-! the calls one by one: both answer alike -/
theorem asN_o (σ : px_Sg) {k : Nat} (h1 : k ≠ 40) (h2 : k ≠ 49) : s_asNow σ k = σ k := by simp [s_asNow, px_up, h1, h2]
theorem asN_49 (σ : px_Sg) : s_asNow σ 49 = cpn (σ 44) (σ 49) 8 := by simp [s_asNow, px_up]
theorem asN_13 (σ : px_Sg) : s_asNow σ 40 13 = σ 40 5 := by simp [s_asNow, px_up, upd]
theorem asN_14 (σ : px_Sg) : s_asNow σ 40 14 = σ 40 6 := by simp [s_asNow, px_up, upd]
theorem asN_15 (σ : px_Sg) : s_asNow σ 40 15 = 0 := by simp [s_asNow, px_up, upd]
theorem asN_16 (σ : px_Sg) : s_asNow σ 40 16 = 0 := by simp [s_asNow, px_up, upd]
theorem asN_17 (σ : px_Sg) : s_asNow σ 40 17 = 0 := by simp [s_asNow, px_up, upd]
theorem asN_Sm (σ : px_Sg) : Sm σ (s_asNow σ) := ⟨fun k h => asN_o σ (by omega) (by omega), by simp [s_asNow, px_up], by simp [s_asNow, px_up], by simp [s_asNow, px_up, upd], by simp [s_asNow, px_up, upd], by simp [s_asNow, px_up, upd], by simp [s_asNow, px_up, upd]⟩
theorem mk_congr {p q : Nat → Bool} : ∀ {n : Nat}, (∀ k, k < n → p k = q k) → mk p n = mk q n
  | 0, _ => rfl
  | n + 1, h => by rw [mk, mk, mk_congr (fun k hk => h k (by omega)), h n (by omega)]
theorem dS_congr {h p p' : Nat → Int32} (e : ∀ k, k < 8 → p k = p' k) : dS h p = dS h p' := mk_congr fun k hk => by rw [e k hk]
theorem cpn_lt (p q : Nat → Int32) {n k : Nat} (h : k < n) : cpn p q n k = p k := by simp [cpn, h]
theorem dS_asN (h p q : Nat → Int32) : dS h (cpn p q 8) = dS h p := dS_congr fun k hk => cpn_lt p q hk
section OPS
variable {L : Nat} {xs : Nat → Int32} {σ : px_Sg}
theorem Op.of {MX MM : px_M} {as : List Value} {v v' : Value} {σ1 σ2 : px_Sg} (a : px_E L xs MX (.ref 0 :: as) σ (some v) σ1) (b : px_E L xs MM (.ref 40 :: as) σ1 (some v') σ2) (e : v' = v) (r : Rel σ2) : Op L xs MX MM as σ := by
  subst e
  exact ⟨_, _, _, a, b, r⟩
theorem o_wipe (hR : Rel σ) : Op L xs mX2_wipe mX3_wipe [] σ := by
  obtain ⟨r1, r2, r3, r4, r5, r6, ⟨n, n1, n2, n3⟩, r8, r9, r10⟩ := hR
  refine Op.of (tX_wipe σ) (tM_wipe _) ?_ ?_
  · rw [n2, ← n3]; rfl
  · exact ⟨r1, r2, r3, r4, r5, r6, ⟨0, by omega, rfl, rfl⟩, r8, r9.sm rfl rfl rfl (fun k h1 h2 => by simp [px_up, show k ≠ 40 by omega, show k ≠ 37 by omega]), r10.sm rfl rfl rfl (fun k h1 h2 => by simp [px_up, show k ≠ 40 by omega, show k ≠ 37 by omega])⟩
theorem o_forget (hR : Rel σ) : Op L xs mX2_forget mX3_forget [] σ := by
  obtain ⟨r1, r2, r3, r4, r5, ⟨n, n1, n2, n3, n4⟩, r7, r8, r9, r10⟩ := hR
  refine Op.of (tX_forget σ) (tM_forget _) ?_ ?_
  · rw [n2, ← n3]; rfl
  · exact ⟨r1, r2, r3, r4, r5, ⟨0, by omega, rfl, rfl, fun i hi => by omega⟩, r7, r8, r9.sm rfl rfl rfl (fun k h1 h2 => by simp [px_up, show k ≠ 40 by omega, show k ≠ 1 by omega]), r10.sm rfl rfl rfl (fun k h1 h2 => by simp [px_up, show k ≠ 40 by omega, show k ≠ 1 by omega])⟩
theorem o_fault (hR : Rel σ) : Op L xs mX2_fault mX3_fault [] σ := by
  obtain ⟨n, n1, n2, n3⟩ := hR.2.2.2.2.2.2.1
  have e8 := hR.2.2.2.2.2.2.2.1
  refine ⟨_, σ, σ, tX_fault σ n2 n1, ?_, hR⟩
  have h := tM_fault (L := L) (xs := xs) σ n3 n1
  rw [e8] at h
  exact h
theorem o_alone (hR : Rel σ) (p : Int32) : Op L xs mX2_alone mX3_alone [.int p] σ := by
  obtain ⟨e1, e2, e3, e4, e5, e6⟩ := hR.2.2.1
  cases h : i8 p with
  | false => exact ⟨_, σ, σ, tX_alone0 σ p h, tM_alone0 σ p h, hR⟩
  | true =>
    obtain ⟨k, hk, rfl⟩ := i8_ex h
    refine ⟨_, σ, σ, tX_alone σ hk, ?_, hR⟩
    have h := tM_alone (L := L) (xs := xs) σ hk
    rw [e3, e5] at h
    exact h
theorem o_makes (hR : Rel σ) (p : Int32) : Op L xs mX2_makes mX3_makes [.int p] σ := by
  obtain ⟨e1, e2, e3, e4, e5, e6⟩ := hR.2.2.1
  cases h : i4 p with
  | false => exact ⟨_, σ, σ, tX_makes0 σ p h, tM_makes0 σ p h, hR⟩
  | true =>
    obtain ⟨k, hk, rfl⟩ := i4_ex h
    refine ⟨_, σ, σ, tX_makes σ hk, ?_, hR⟩
    have h := tM_makes (L := L) (xs := xs) σ hk
    rw [e6, e5] at h
    exact h
theorem o_quarrel (hR : Rel σ) (p q : Int32) : Op L xs mX2_quarrel mX3_quarrel [.int p, .int q] σ := by
  obtain ⟨e1, e2, e3, e4, e5, e6⟩ := hR.2.2.1
  cases h : i4 p with
  | false => exact ⟨_, σ, σ, tX_quarrel0 σ p q h, tM_quarrel0 σ p q h, hR⟩
  | true =>
    obtain ⟨k, hk, rfl⟩ := i4_ex h
    cases h2 : i4 q with
    | false => exact ⟨_, σ, σ, tX_quarrel1 σ hk q h2, tM_quarrel1 σ hk q h2, hR⟩
    | true =>
      obtain ⟨j, hj, rfl⟩ := i4_ex h2
      by_cases hn : cI k = cI j
      · have : k = j := by rw [cI_n, cI_n] at hn; exact (nI_eq (by omega) (by omega)).mp hn
        subst this
        exact ⟨_, σ, σ, tX_quarrel2 σ hk, tM_quarrel2 σ hk, hR⟩
      · refine ⟨_, σ, σ, tX_quarrel σ hk hj hn, ?_, hR⟩
        have h := tM_quarrel (L := L) (xs := xs) σ hk hj hn
        rw [e6, e5] at h
        exact h
theorem iB_lit {x : Int32} (n : Nat) (hn : n < 2147483647) (h : iB x 0 (nI n) = true) : ∃ k, k ≤ n ∧ x = cI k := by
  unfold iB at h
  simp only [Bool.and_eq_true, Bool.not_eq_true', decide_eq_false_iff_not] at h
  obtain ⟨j, hj, rfl⟩ := nI_of h.1
  refine ⟨j, ?_, (cI_n j).symm⟩
  have := h.2
  rw [nI_ltI (by omega) hj] at this
  omega
theorem o_state (hR : Rel σ) (p : Int32) : Op L xs mX2_state mX3_state [.int p] σ := by
  obtain ⟨e1, e2, e3, e4, e5, e6⟩ := hR.2.2.1
  have hf := hR.2.2.2.1
  have hs := hR.2.2.2.2.1
  have hz : σ 1 9 = 0 ∨ σ 1 9 = 1 := hR.1.2.2.2.2.2.1
  have hR2 := hR.sm (asN_Sm σ)
  cases h : iB p 0 3 with
  | false => exact ⟨_, σ, σ, tX_state0 σ p h, tM_state0 σ p h, hR⟩
  | true =>
    obtain ⟨k, hk, rfl⟩ := iB_lit 3 (by decide) h
    match k, hk with
    | 0, _ =>
      refine ⟨_, σ, _, tX_state_0 σ, ?_, hR2⟩
      have h := tM_state_0 (L := L) (xs := xs) σ
      rw [asN_49, asN_o σ (by decide) (by decide), dS_asN, e1, e4] at h
      exact h
    | 1, _ =>
      refine ⟨_, σ, _, tX_state_1 σ, ?_, hR2⟩
      have h := tM_state_1 (L := L) (xs := xs) σ
      rw [asN_49, asN_o σ (by decide) (by decide), asN_o σ (by decide) (by decide), dS_asN, e1, e3, e4] at h
      exact h
    | 2, _ =>
      refine ⟨_, σ, _, tX_state_2 σ, ?_, hR2⟩
      have h := tM_state_2 (L := L) (xs := xs) σ
      rw [asN_13, hf] at h
      exact h
    | 3, _ =>
      refine ⟨_, σ, _, tX_state_3 σ, ?_, hR2⟩
      have h := tM_state_3 (L := L) (xs := xs) σ
      rw [asN_14, hs] at h
      have e9 : (if σ 1 9 = 0 then (0 : Int32) else 1) = σ 1 9 := by rcases hz with q | q <;> rw [q] <;> decide
      rw [e9]
      exact h
theorem o_can (hR : Rel σ) : Op L xs mX2_can mX3_can [] σ := by
  obtain ⟨e1, e2, e3, e4, e5, e6⟩ := hR.2.2.1
  have hf := hR.2.2.2.1
  have hs := hR.2.2.2.2.1
  have hz : σ 1 9 = 0 ∨ σ 1 9 = 1 := hR.1.2.2.2.2.2.1
  refine ⟨_, σ, _, tX_can σ, ?_, hR.sm (asN_Sm σ)⟩
  have h := tM_can (L := L) (xs := xs) σ (by rw [asN_14, hs]; exact hz)
  rw [asN_13, asN_14, asN_49, asN_o σ (k := 41) (by decide) (by decide), asN_o σ (k := 43) (by decide) (by decide), asN_o σ (k := 45) (by decide) (by decide), hf, hs, e1, e3, e4, e5] at h
  have e9 : pw (σ 1 9) (σ 2) (cpn (σ 5) (σ 49) 8) (σ 4) = pw (σ 1 9) (σ 2) (σ 5) (σ 4) := by unfold pw; rw [dS_asN]
  rw [e9] at h
  exact h
theorem o_sent (hR : Rel σ) : Op L xs mX2_sent mX3_sent [] σ := by
  obtain ⟨e1, e2, e3, e4, e5, e6⟩ := hR.2.2.1
  refine ⟨_, σ, _, tX_sent σ, ?_, hR.sm (asN_Sm σ)⟩
  have h := tM_sent (L := L) (xs := xs) σ
  rw [asN_49, asN_o σ (k := 41) (by decide) (by decide), asN_o σ (k := 43) (by decide) (by decide), asN_o σ (k := 46) (by decide) (by decide), dS_asN, e1, e3, e4, e6] at h
  exact h
end OPS
