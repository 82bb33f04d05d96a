section OPS2
variable {L : Nat} {xs : Nat → Int32} {σ : px_Sg}
theorem iB19 {h : Int32} (h1 : ¬ h < 1) (h2 : ¬ 9 < h) : ∃ a : Nat, h = nI a ∧ 1 ≤ a ∧ a ≤ 9 := by
  have h3 : ¬ h < 0 := fun q => h1 (by
    rw [Int32.lt_iff_toInt_lt] at q ⊢
    have e1 : (0 : Int32).toInt = 0 := by decide
    have e2 : (1 : Int32).toInt = 1 := by decide
    omega)
  obtain ⟨j, hj, rfl⟩ := nI_of h3
  rw [show (1 : Int32) = nI 1 from rfl, nI_ltI hj (by omega)] at h1
  rw [show (9 : Int32) = nI 9 from rfl, nI_ltI (by omega) hj] at h2
  exact ⟨j, rfl, by omega, by omega⟩
theorem on_self {k : Nat} (hk : k < 8) : bt (on k) k = true := by rw [on_bt k hk k (by omega)]; simp
theorem o_part (hR : Rel σ) (p a b c : Int32) : Op L xs mX2_part mX3_part [.int p, .int a, .int b, .int c] σ := by
  cases h : i8 p with
  | false => exact ⟨_, σ, σ, tX_part0 σ p h a b c, tM_part0 σ p h a b c, hR⟩
  | true =>
    obtain ⟨k, hk, rfl⟩ := i8_ex h
    cases hv : pvB k a b c with
    | false => exact ⟨_, σ, σ, tX_part1 σ hk a b c hv, tM_part1 σ hk a b c hv, hR⟩
    | true =>
      obtain ⟨r1, r2, ⟨e1, e2, e3, e4, e5, e6⟩, r4, r5, r6, r7, r8, r9, r10⟩ := hR
      refine Op.of (tX_part σ hk a b c hv) (tM_part _ hk a b c hv) ?_ ?_
      · show Value.int (sX_part σ k a b c 41 k) = _
        simp only [sX_part, px_up, if_false, Nat.reduceEqDiff, e1]
      · obtain ⟨w1, w2, w3, w4, w5, w6, w7, w8, w9, w10, w11, w12⟩ := r1
        obtain ⟨v1, v2, v3, v4, v5⟩ := pv hv
        have hka : bt (abS (σ 3) (on k)) k = true := abS_in (by omega) (on_self hk)
        have hcl := fall_closed (h := σ 2) (u := σ 3) (p := σ 5) (h' := upd (σ 2) k a) (u' := upd (σ 3) k b) (s := on k) w2 w7
          (fun j hj hb => upd_ne _ (fun q => by rw [q, hka] at hb; cases hb) _) (fun j hj hb => upd_ne _ (fun q => by rw [q, hka] at hb; cases hb) _)
        refine ⟨?_, ?_, ?_, ?_, ?_, ?_, ?_, ?_, ?_, ?_⟩
        · show WFc (upd (σ 2) k a) (upd (σ 3) k b) (upd (σ 4) k c) (unp (σ 5) (abS (σ 3) (on k)) 8) (σ 6) (σ 1 8) (σ 1 9)
          refine ⟨fun j hj => ?_, fun j hj => ?_, fun j hj => ?_, w4, w5, w6, hcl, upd_zo w8 hk, upd_zo w9 hk, upd_zo w10 hk, unp_zo _ w11, w12⟩
          · by_cases e : j = k
            · subst e
              obtain ⟨q, q1, q2, q3⟩ := iB19 v3 v4
              exact ⟨q, 0, by rw [upd_at]; exact q1, q2, q3, by rw [unp8 _ _ hj, if_pos hka]; rfl, by omega⟩
            · obtain ⟨q, q', q1, q2, q3, q4, q5⟩ := w1 j hj
              rw [upd_ne _ e, unp8 _ _ hj]
              by_cases hb : bt (abS (σ 3) (on k)) j = true
              · rw [if_pos hb]; exact ⟨q, 0, q1, q2, q3, rfl, by omega⟩
              · rw [if_neg hb]; exact ⟨q, q', q1, q2, q3, q4, q5⟩
          · by_cases e : j = k
            · subst e; rw [upd_at]; exact lo_under hj v1 v2
            · rw [upd_ne _ e]; exact w2 j hj
          · by_cases e : j = k
            · subst e; rw [upd_at]; exact lo_iS v5
            · rw [upd_ne _ e]; exact w3 j hj
        · exact r2
        · refine ⟨?_, ?_, ?_, ?_, e5, e6⟩
          · show upd (σ 41) k a = upd (σ 2) k a; rw [e1]
          · show upd (σ 42) k b = upd (σ 3) k b; rw [e2]
          · show upd (σ 43) k c = upd (σ 4) k c; rw [e3]
          · show unp (σ 44) (abS (σ 42) (on k)) 8 = unp (σ 5) (abS (σ 3) (on k)) 8; rw [e2, e4]
        · exact r4
        · exact r5
        · exact r6
        · exact r7
        · exact r8
        · exact r9.sm rfl rfl rfl (fun j h1 h2 => by simp [sM_part, sX_part, px_up, show j ≠ 41 by omega, show j ≠ 42 by omega, show j ≠ 43 by omega, show j ≠ 44 by omega, show j ≠ 2 by omega, show j ≠ 3 by omega, show j ≠ 4 by omega, show j ≠ 5 by omega])
        · exact r10.sm rfl rfl rfl (fun j h1 h2 => by simp [sM_part, sX_part, px_up, show j ≠ 41 by omega, show j ≠ 42 by omega, show j ≠ 43 by omega, show j ≠ 44 by omega, show j ≠ 2 by omega, show j ≠ 3 by omega, show j ≠ 4 by omega, show j ≠ 5 by omega])
theorem o_needs (hR : Rel σ) (p q : Int32) : Op L xs mX2_needs mX3_needs [.int p, .int q] σ := by
  cases h : i8 p with
  | false => exact ⟨_, σ, σ, tX_needs0 σ p h q, tM_needs0 σ p h q, hR⟩
  | true =>
    obtain ⟨k, hk, rfl⟩ := i8_ex h
    cases hv : iS q with
    | false => exact ⟨_, σ, σ, tX_needs1 σ hk q hv, tM_needs1 σ hk q hv, hR⟩
    | true =>
      obtain ⟨r1, r2, ⟨e1, e2, e3, e4, e5, e6⟩, r4, r5, r6, r7, r8, r9, r10⟩ := hR
      refine Op.of (tX_needs σ hk q hv) (tM_needs _ hk q hv) ?_ ?_
      · show Value.int (σ 45 k) = _
        rw [e5]
      · obtain ⟨w1, w2, w3, w4, w5, w6, w7, w8, w9, w10, w11, w12⟩ := r1
        refine ⟨?_, r2, ?_, ?_, r5, r6, r7, r8, ?_, ?_⟩
        · show WFc (σ 2) (σ 3) (σ 4) (σ 5) (upd (σ 6) k q) (σ 1 8 &&& (on k ^^^ -1)) (σ 1 9)
          refine ⟨w1, w2, w3, fun j hj => ?_, fun j h1 h2 => ?_, w6, w7, w8, w9, w10, w11, upd_zo w12 hk⟩
          · by_cases e : j = k
            · subst e; rw [upd_at]; exact lo_iS hv
            · rw [upd_ne _ e]; exact w4 j hj
          · rw [b_and, w5 j h1 h2]; rfl
        · refine ⟨e1, e2, e3, e4, ?_, e6⟩
          show upd (σ 45) k q = upd (σ 6) k q; rw [e5]
        · show σ 40 5 &&& (on k ^^^ -1) = σ 1 8 &&& (on k ^^^ -1); rw [r4]
        · exact r9.sm rfl rfl rfl (fun j h1 h2 => by simp [sM_needs, sX_needs, px_up, show j ≠ 45 by omega, show j ≠ 40 by omega, show j ≠ 1 by omega, show j ≠ 6 by omega])
        · exact r10.sm rfl rfl rfl (fun j h1 h2 => by simp [sM_needs, sX_needs, px_up, show j ≠ 45 by omega, show j ≠ 40 by omega, show j ≠ 1 by omega, show j ≠ 6 by omega])
theorem o_say (hR : Rel σ) (q : Int32) : Op L xs mX2_say mX3_say [.int q] σ := by
  cases hv : iB q 33 126 with
  | false => exact ⟨_, σ, σ, tX_say0 σ q hv, tM_say0 σ q hv, hR⟩
  | true =>
    obtain ⟨n, n1, n2, n3⟩ := hR.2.2.2.2.2.2.1
    by_cases h60 : n = 60
    · subst h60
      exact ⟨_, σ, σ, tX_say1 σ q hv n2, tM_say1 σ q hv n3, hR⟩
    · obtain ⟨r1, r2, r3, r4, r5, r6, r7, r8, r9, r10⟩ := hR
      have hlt : n < 60 := by omega
      refine Op.of (tX_say σ q hv n2 hlt) (tM_say _ q hv (n := n) (by exact n3) hlt) ?_ ?_
      · show Value.int (σ 40 10 + 1) = Value.int (σ 37 1 + 1)
        rw [n2, n3]
      · refine ⟨r1, r2, r3, r4, r5, r6, ⟨n + 1, by omega, ?_, ?_⟩, ?_, ?_, ?_⟩
        · show σ 37 1 + 1 = _; rw [n2]; exact nI_1 n
        · show σ 40 10 + 1 = _; rw [n3]; exact nI_1 n
        · show upd (σ 48) n q = upd (σ 38) n q; rw [r8]
        · exact r9.sm rfl rfl rfl (fun j h1 h2 => by simp [sM_say, s_write, px_up, show j ≠ 48 by omega, show j ≠ 40 by omega, show j ≠ 37 by omega, show j ≠ 38 by omega])
        · exact r10.sm rfl rfl rfl (fun j h1 h2 => by simp [sM_say, s_write, px_up, show j ≠ 48 by omega, show j ≠ 40 by omega, show j ≠ 37 by omega, show j ≠ 38 by omega])
theorem o_send (hR : Rel σ) (p : Int32) : Op L xs mX2_send mX3_send [.int p] σ := by
  cases h : i4 p with
  | false => exact ⟨_, σ, σ, tX_send0 σ p h, tM_send0 σ p h, hR⟩
  | true =>
    obtain ⟨k, hk, rfl⟩ := i4_ex h
    obtain ⟨r1, r2, ⟨e1, e2, e3, e4, e5, e6⟩, r4, r5, r6, r7, r8, r9, r10⟩ := hR
    have hp : pS (s_asNow (px_up σ 9 (upd (σ 9) k (pS (σ 4) (dS (σ 2) (σ 5))))) 43) (dS (s_asNow (px_up σ 9 (upd (σ 9) k (pS (σ 4) (dS (σ 2) (σ 5))))) 41) (s_asNow (px_up σ 9 (upd (σ 9) k (pS (σ 4) (dS (σ 2) (σ 5))))) 49)) = pS (σ 4) (dS (σ 2) (σ 5)) := by
      rw [asN_49, asN_o _ (by decide) (by decide), asN_o _ (by decide) (by decide), dS_asN]
      show pS (σ 43) (dS (σ 41) (σ 44)) = _
      rw [e1, e3, e4]
    refine Op.of (tX_send σ hk) (tM_send _ hk) (by rw [hp]) ?_
    rw [hp, asN_o _ (by decide) (by decide)]
    refine ⟨r1, ?_, ⟨e1, e2, e3, e4, e5, ?_⟩, r4, r5, r6, r7, r8, ?_, ?_⟩
    · show zo 4 (upd (σ 9) k _)
      exact upd_zo r2 hk
    · show upd (σ 46) k _ = upd (σ 9) k _; rw [e6]
    · exact r9.sm rfl rfl rfl (fun j h1 h2 => by simp [s_asNow, px_up, show j ≠ 46 by omega, show j ≠ 40 by omega, show j ≠ 49 by omega, show j ≠ 9 by omega])
    · exact r10.sm rfl rfl rfl (fun j h1 h2 => by simp [s_asNow, px_up, show j ≠ 46 by omega, show j ≠ 40 by omega, show j ≠ 49 by omega, show j ≠ 9 by omega])
end OPS2
