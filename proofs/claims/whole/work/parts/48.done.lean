section OPS6
variable {L : Nat} {xs : Nat → Int32} {σ : px_Sg}
theorem cpy_o {k : Nat} (h : ¬ (1 ≤ k ∧ k ≤ 9)) : s_copy_1_10 σ k = σ k := by
  simp [s_copy_1_10, px_up, show k ≠ 1 by omega, show k ≠ 2 by omega, show k ≠ 3 by omega, show k ≠ 4 by omega, show k ≠ 5 by omega, show k ≠ 6 by omega, show k ≠ 7 by omega, show k ≠ 8 by omega, show k ≠ 9 by omega]
theorem o_done (hR : Rel σ) : Op L xs mX2_done mX3_done [] σ := by
  rcases both_can (L := L) (xs := xs) hR with ⟨σ1, a, h8, b, hR1⟩ | ⟨n, σ1, hn, g, c, hst, hok, hh⟩
  · exact ⟨_, _, _, tX_done0 σ a h8, tM_done0 σ1 b, hR1⟩
  · have hR1 := hR.sm g.Sm
    rcases hh with ⟨a, h8, b⟩ | ⟨a, h8, b⟩
    · obtain ⟨σ2, b1, b2⟩ := b σ1 (fun k hk => g.1 k (by omega) (by omega))
      exact ⟨_, _, _, tX_done0 σ a h8, tM_done0 σ1 b1, hR1.sm b2.Sm⟩
    · obtain ⟨c1, c2, c3, c4, c5, c6⟩ := c
      have hz1 : σ1 10 9 = 0 ∨ σ1 10 9 = 1 := by rw [c3]; exact okX_z hok
      have hs3 : ∀ k, 40 ≤ k → sX_done σ1 k = σ k := fun k hk => by
        rw [← g.1 k (by omega) (by omega)]
        show px_up (s_copy_1_10 σ1) 37 _ k = _
        rw [px_up, if_neg (by omega), cpy_o (by omega)]
      obtain ⟨σ2, b1, b2, b3, b4⟩ := b (sX_done σ1) hs3
      obtain ⟨d1, d2, d3, d4, d5, d6⟩ := b3
      obtain ⟨r1, r2, ⟨e1, e2, e3, e4, e5, e6⟩, r4, r5, ⟨ns, s1, s2, s3, s4⟩, ⟨np, p1, p2, p3⟩, r8, r9, r10⟩ := hR
      obtain ⟨g1, g2, g3, g4, g5, g6, g7, g8, g9, g10, g11⟩ := g
      refine Op.of (tX_done1 σ a h8 hz1) (tM_done1 _ b1) (by rw [b4, hst]) ?_
      -- where all is
      generalize hX : (RR σ n).2.2 = X at *
      have hlow : ∀ k, k < 40 → sM_done σ2 k = sX_done σ1 k := fun k hk => by
        have : sM_done σ2 k = σ2 k := by simp [sM_done, px_up, show k ≠ 40 by omega, show k ≠ 44 by omega]
        rw [this, b2.1 k (by omega) (by omega)]
      have hhi : ∀ k, 40 < k → k ≠ 44 → k ≠ 49 → sM_done σ2 k = σ k := fun k hk h4 h9 => by
        have : sM_done σ2 k = σ2 k := by simp [sM_done, px_up, show k ≠ 40 by omega, h4]
        rw [this, b2.1 k (by omega) h9, hs3 k (by omega)]
      have hmid : ∀ k, ¬ (1 ≤ k ∧ k ≤ 9) → k ≠ 0 → ¬ (10 ≤ k ∧ k ≤ 18) → k ≠ 37 → k < 40 → sM_done σ2 k = σ k := fun k a1 a2 a3 a4 a5 => by
        rw [hlow k a5]
        show px_up (s_copy_1_10 σ1) 37 _ k = _
        rw [px_up, if_neg a4, cpy_o a1, g1 k a2 a3]
      have q1 : ∀ j, sM_done σ2 1 j = (s_copy_1_10 σ1) 1 j := fun j => by rw [hlow 1 (by decide)]; rfl
      have q18 : sM_done σ2 1 8 = X.2.1 := by rw [q1]; simp [s_copy_1_10, px_up, upd, c2]
      have q19 : sM_done σ2 1 9 = X.2.2.1 := by rw [q1]; simp [s_copy_1_10, px_up, upd, c3]
      have q110 : sM_done σ2 1 10 = σ 1 10 := by rw [q1]; simp [s_copy_1_10, px_up, upd, g10]
      have q111 : sM_done σ2 1 11 = σ 1 11 := by rw [q1]; simp [s_copy_1_10, px_up, upd, g11]
      have q2 : sM_done σ2 2 = σ 2 := by rw [hlow 2 (by decide)]; simp [sX_done, s_copy_1_10, px_up, g3]
      have q3 : sM_done σ2 3 = σ 3 := by rw [hlow 3 (by decide)]; simp [sX_done, s_copy_1_10, px_up, g4]
      have q4 : sM_done σ2 4 = σ 4 := by rw [hlow 4 (by decide)]; simp [sX_done, s_copy_1_10, px_up, g5]
      have q5 : sM_done σ2 5 = X.1 := by rw [hlow 5 (by decide)]; simp [sX_done, s_copy_1_10, px_up, c1]
      have q6 : sM_done σ2 6 = σ 6 := by rw [hlow 6 (by decide)]; simp [sX_done, s_copy_1_10, px_up, g6]
      have q7 : sM_done σ2 7 = σ 7 := by rw [hlow 7 (by decide)]; simp [sX_done, s_copy_1_10, px_up, g7]
      have q8 : sM_done σ2 8 = σ 8 := by rw [hlow 8 (by decide)]; simp [sX_done, s_copy_1_10, px_up, g8]
      have q9 : sM_done σ2 9 = σ 9 := by rw [hlow 9 (by decide)]; simp [sX_done, s_copy_1_10, px_up, g9]
      have q37 : sM_done σ2 37 1 = 0 := by rw [hlow 37 (by decide)]; simp [sX_done, px_up, upd]
      have q0 : ∀ j, j = 6 ∨ j = 7 → sM_done σ2 0 j = σ 0 j := fun j hj => by
        rw [hlow 0 (by decide)]
        show (s_copy_1_10 σ1) 0 j = _
        rw [cpy_o (by omega), g2 j (by omega) (by omega)]
      have q44 : sM_done σ2 44 = X.1 := by
        funext k
        have h44 : σ2 44 = σ 44 := by rw [b2.1 44 (by decide) (by decide), hs3 44 (by decide)]
        show cpn (σ2 49) (σ2 44) 8 k = X.1 k
        unfold cpn
        by_cases hk : k < 8
        · rw [if_pos hk, d1 k hk]
        · rw [if_neg hk, h44, e4, r1.2.2.2.2.2.2.2.2.2.2.1 k (by omega)]
          exact (hok.2.2.2.2.2.2.2.2.2.2.1 k (by omega)).symm
      have f40 : ∀ j, j < 13 → σ2 40 j = σ 40 j := fun j hj => by rw [b2.2 j hj, hs3 40 (by decide)]
      have q405 : sM_done σ2 40 5 = X.2.1 := by simp [sM_done, px_up, upd, d2]
      have q406 : sM_done σ2 40 6 = X.2.2.1 := by simp [sM_done, px_up, upd, d3]
      have q408 : sM_done σ2 40 8 = σ 40 8 := by simp [sM_done, px_up, upd, f40 8 (by decide)]
      have q4010 : sM_done σ2 40 10 = 0 := by simp [sM_done, px_up, upd]
      refine ⟨?_, ?_, ⟨?_, ?_, ?_, ?_, ?_, ?_⟩, ?_, ?_, ⟨ns, s1, ?_, ?_, ?_⟩, ⟨0, by omega, ?_, ?_⟩, ?_, ?_, ?_⟩
      · rw [q2, q3, q4, q5, q6, q18, q19]; exact hok
      · rw [q9]; exact r2
      · rw [hhi 41 (by decide) (by decide) (by decide), q2, e1]
      · rw [hhi 42 (by decide) (by decide) (by decide), q3, e2]
      · rw [hhi 43 (by decide) (by decide) (by decide), q4, e3]
      · rw [q44, q5]
      · rw [hhi 45 (by decide) (by decide) (by decide), q6, e5]
      · rw [hhi 46 (by decide) (by decide) (by decide), q9, e6]
      · rw [q405, q18]
      · rw [q406, q19]
      · rw [q110]; exact s2
      · rw [q408]; exact s3
      · rw [q7, q8, q111, hhi 47 (by decide) (by decide) (by decide)]; exact s4
      · exact q37
      · exact q4010
      · rw [hhi 48 (by decide) (by decide) (by decide), hmid 38 (by omega) (by decide) (by omega) (by decide) (by decide)]; exact r8
      · exact r9.sm (q0 6 (Or.inl rfl)) (hhi 55 (by decide) (by decide) (by decide)) (hhi 54 (by decide) (by decide) (by decide)) (fun k h1 h2 => hmid k (by omega) (by omega) (by omega) (by omega) (by omega))
      · exact r10.sm (q0 7 (Or.inr rfl)) (hhi 55 (by decide) (by decide) (by decide)) (hhi 54 (by decide) (by decide) (by decide)) (fun k h1 h2 => hmid k (by omega) (by omega) (by omega) (by omega) (by omega))
end OPS6
