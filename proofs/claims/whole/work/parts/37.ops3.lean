section OPS3
variable {L : Nat} {xs : Nat → Int32} {σ : px_Sg}
theorem bt_bS {p : Nat → Int32} {i : Nat} (hi : i < 32) : bt (bS p) i = (decide (i < 8) && !decide (p i ≤ 0)) := bt_mk _ 8 (by omega) i hi
/-- what is done is begun -/
theorem done_begun {h p : Nat → Int32} (w : ∀ k, k < 8 → ∃ a b : Nat, h k = nI a ∧ 1 ≤ a ∧ a ≤ 9 ∧ p k = nI b ∧ b ≤ a) {i : Nat} (hi : i < 32) (hd : bt (dS h p) i = true) : bt (bS p) i = true := by
  rw [bt_dS hi] at hd
  simp only [Bool.and_eq_true, decide_eq_true_eq] at hd
  obtain ⟨a, b, h1, h2, h3, h4, h5⟩ := w i hd.1
  rw [bt_bS hi]
  have : ¬ p i ≤ 0 := by
    rw [hd.2, h1]
    exact nI_nle (by omega) (by omega)
  simp [hd.1, this]
theorem o_falls (hR : Rel σ) (p q : Int32) : Op L xs mX2_falls mX3_falls [.int p, .int q] σ := by
  cases h : i8 p with
  | false => exact ⟨_, σ, σ, tX_falls0 σ p h q, tM_falls0 σ p h q, hR⟩
  | true =>
    obtain ⟨k, hk, rfl⟩ := i8_ex h
    obtain ⟨e1, e2, e3, e4, e5, e6⟩ := hR.2.2.1
    cases hv : i2 q with
    | false => exact ⟨_, σ, σ, tX_falls1 σ hk q hv, tM_falls1 σ hk q hv, hR⟩
    | true =>
      rcases i2_ex hv with rfl | rfl
      · refine Op.of (tX_falls_0 σ hk) (tM_falls_0 σ hk) ?_ (hR.sm (asN_Sm σ))
        rw [asN_o σ (k := 42) (by decide) (by decide), asN_o σ (k := 44) (by decide) (by decide), e2, e4]
      · refine Op.of (tX_falls_1 σ hk) (tM_falls_1 σ hk) ?_ (hR.sm (asN_Sm σ))
        rw [asN_49, asN_o σ (k := 41) (by decide) (by decide), asN_o σ (k := 42) (by decide) (by decide), asN_o σ (k := 43) (by decide) (by decide), dS_asN, e1, e2, e3, e4]
        have e9 : dS (σ 2) (σ 5) &&& (abS (σ 3) (on k) ^^^ -1) = dS (σ 2) (σ 5) &&& ((abS (σ 3) (on k) &&& bS (σ 5)) ^^^ -1) := by
          apply b_ext
          intro i hi
          rw [b_and, b_and, bt_not _ hi, bt_not _ hi, b_and]
          cases hd : bt (dS (σ 2) (σ 5)) i with
          | false => rfl
          | true => rw [done_begun hR.1.1 hi hd]; simp
        rw [e9]
theorem hb_or_on {x : Int32} {i n : Nat} (hi : i < 8) (hn : n < 8) : hb (x ||| on n) i = (hb x i || decide (i = n)) := by
  rw [hb_bt hi, hb_bt hi, b_or, on_bt n hn i (by omega)]
theorem hb_andn_on {x : Int32} {i n : Nat} (hi : i < 8) (hn : n < 8) : hb (x &&& (on n ^^^ -1)) i = (hb x i && !decide (i = n)) := by
  rw [hb_bt hi, hb_bt hi, b_and, bt_not _ (by omega), on_bt n hn i (by omega)]
theorem iB60 {x : Int32} (h : iB x 0 60 = true) : ∃ t : Nat, t ≤ 60 ∧ x = nI t := by
  obtain ⟨k, hk, rfl⟩ := iB_lit 60 (by decide) h
  exact ⟨k, hk, cI_n k⟩
theorem on_at {x : Int32} {n : Nat} (h : x = nI n) : (1 <<< (x &&& 31) : Int32) = on n := by rw [h, ← cI_n]; rfl
theorem SIc_add {n : Nat} {ss sa : Nat → Int32} {cl cl' : Int32} {q : Nat → Int32} {x : Int32} {k : Nat} {w : Bool} (h : SIc n ss sa cl q 0) (hn : n < 8) (hx : ∃ t : Nat, t ≤ 60 ∧ x = nI t) (hk : k < 8) (hc : ∀ i, i < n → hb cl' i = hb cl i) (hw : hb cl' n = w) :
    SIc (n + 1) (upd ss n x) (upd sa n (cI k)) cl' (upd (upd (upd q (3 * n) x) (3 * n + 1) (cI k)) (3 * n + 2) (bo w)) 0 := by
  intro i hi
  simp only [Nat.zero_add]
  by_cases e : i = n
  · subst e
    refine ⟨by rw [upd_at]; exact hx, ⟨k, hk, by rw [upd_at]⟩, ?_, ?_, ?_⟩
    · rw [upd_ne _ (by omega), upd_ne _ (by omega), upd_at, upd_at]
    · rw [upd_ne _ (by omega), upd_at, upd_at]
    · rw [upd_at, hw]
  · obtain ⟨a1, a2, a3, a4, a5⟩ := h i (by omega)
    simp only [Nat.zero_add] at a3 a4 a5
    refine ⟨by rw [upd_ne _ e]; exact a1, by rw [upd_ne _ e]; exact a2, ?_, ?_, ?_⟩
    · rw [upd_ne _ (by omega), upd_ne _ (by omega), upd_ne _ (by omega), upd_ne _ e]; exact a3
    · rw [upd_ne _ (by omega), upd_ne _ (by omega), upd_ne _ (by omega), upd_ne _ e]; exact a4
    · rw [upd_ne _ (by omega), upd_ne _ (by omega), upd_ne _ (by omega), hc i (by omega)]; exact a5
theorem o_seen (hR : Rel σ) (q p : Int32) (c : Int32) (hc : c = 0 ∨ c = 1) : Op L xs mX2_seen mX3_seen [.int q, .int p, .int c] σ := by
  cases h : i8 p with
  | false => exact ⟨_, σ, σ, tX_seen0 σ q p c h, tM_seen0 σ q p c h, hR⟩
  | true =>
    obtain ⟨k, hk, rfl⟩ := i8_ex h
    cases hv : iB q 0 60 with
    | false => exact ⟨_, σ, σ, tX_seen1 σ q hk c hv, tM_seen1 σ q hk c hv, hR⟩
    | true =>
      obtain ⟨n, n1, n2, n3, n4⟩ := hR.2.2.2.2.2.1
      by_cases h8 : n = 8
      · subst h8
        exact ⟨_, σ, σ, tX_seen2 σ q hv hk c n2, tM_seen2 σ q hv hk c n3, hR⟩
      · have hlt : n < 8 := by omega
        obtain ⟨r1, r2, r3, r4, r5, r6, r7, r8, r9, r10⟩ := hR
        rcases hc with rfl | rfl
        · refine Op.of (tX_seen_0 σ q hv hk n2 hlt) (tM_seen_0 _ q hv hk (n := n) (by exact n3) hlt) ?_ ?_
          · show Value.int (σ 40 8 + 1) = Value.int (σ 1 10 + 1); rw [n2, n3]
          · refine ⟨r1, r2, r3, r4, r5, ⟨n + 1, by omega, ?_, ?_, ?_⟩, r7, r8, ?_, ?_⟩
            · show σ 1 10 + 1 = _; rw [n2]; exact nI_1 n
            · show σ 40 8 + 1 = _; rw [n3]; exact nI_1 n
            · have := SIc_add (cl' := σ 1 11 &&& (on n ^^^ -1)) (w := false) n4 hlt (iB60 hv) hk (fun i hi => by rw [hb_andn_on (by omega) hlt]; simp [show i ≠ n by omega]) (by rw [hb_andn_on hlt hlt]; simp)
              show SIc (n + 1) (upd (σ 7) n q) (upd (σ 8) n (cI k)) (σ 1 11 &&& ((1 <<< (σ 1 10 &&& 31)) ^^^ -1)) _ 0
              rw [on_at n2]
              exact this
            · exact r9.sm rfl rfl rfl (fun j h1 h2 => by simp [sM_seen0, s1_addSight0, px_up, show j ≠ 47 by omega, show j ≠ 40 by omega, show j ≠ 7 by omega, show j ≠ 8 by omega, show j ≠ 1 by omega])
            · exact r10.sm rfl rfl rfl (fun j h1 h2 => by simp [sM_seen0, s1_addSight0, px_up, show j ≠ 47 by omega, show j ≠ 40 by omega, show j ≠ 7 by omega, show j ≠ 8 by omega, show j ≠ 1 by omega])
        · refine Op.of (tX_seen_1 σ q hv hk n2 hlt) (tM_seen_1 _ q hv hk (n := n) (by exact n3) hlt) ?_ ?_
          · show Value.int (σ 40 8 + 1) = Value.int (σ 1 10 + 1); rw [n2, n3]
          · refine ⟨r1, r2, r3, r4, r5, ⟨n + 1, by omega, ?_, ?_, ?_⟩, r7, r8, ?_, ?_⟩
            · show σ 1 10 + 1 = _; rw [n2]; exact nI_1 n
            · show σ 40 8 + 1 = _; rw [n3]; exact nI_1 n
            · have := SIc_add (cl' := σ 1 11 ||| on n) (w := true) n4 hlt (iB60 hv) hk (fun i hi => by rw [hb_or_on (by omega) hlt]; simp [show i ≠ n by omega]) (by rw [hb_or_on hlt hlt]; simp)
              show SIc (n + 1) (upd (σ 7) n q) (upd (σ 8) n (cI k)) (σ 1 11 ||| (1 <<< (σ 1 10 &&& 31))) _ 0
              rw [on_at n2]
              exact this
            · exact r9.sm rfl rfl rfl (fun j h1 h2 => by simp [sM_seen1, s1_addSight1, px_up, show j ≠ 47 by omega, show j ≠ 40 by omega, show j ≠ 7 by omega, show j ≠ 8 by omega, show j ≠ 1 by omega])
            · exact r10.sm rfl rfl rfl (fun j h1 h2 => by simp [sM_seen1, s1_addSight1, px_up, show j ≠ 47 by omega, show j ≠ 40 by omega, show j ≠ 7 by omega, show j ≠ 8 by omega, show j ≠ 1 by omega])
end OPS3
