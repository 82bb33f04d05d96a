section OPS7
variable {L : Nat} {xs : Nat → Int32} {σ : px_Sg}
def yr (h u g n : Nat → Int32) : Nat → Nat → TS → TS
  | 0, _, X => X
  | m + 1, dr, X => yr h u g n m ((75 * dr + 74) % 65537) (if rsn h u g n (yk ((75 * dr + 74) % 65537 % 8)) ((75 * dr + 74) % 65537 / 8 % 8) X = 0 then stp h u g n (yk ((75 * dr + 74) % 65537 % 8)) ((75 * dr + 74) % 65537 / 8 % 8) X else X)
def ych (k : Nat) (a b c : Int32) : Int32 := match k with
  | 0 => a
  | 1 => b
  | _ => c
theorem yk_4 (j : Nat) : yk j = 1 ∨ yk j = 2 ∨ yk j = 3 ∨ yk j = 4 := by
  unfold yk; split <;> simp
theorem yX_all {Q : Option Value → px_H → Prop} {n : Nat} (h60 : n < 1000) (s w b : Int32) : ∀ (m i dr : Nat) (X : TS) (σ : px_Sg), i + m = n → dr < 65537 → rC σ X → (∀ σ' x, rC σ' (yr (σ 11) (σ 12) (σ 13) (σ 15) m dr X) → kC σ σ' → px_W L xs mX2_year (63, [some (.ref 0), some (.int s), some (.int (nI n)), some (.int w), some (.int b), some (.int x), some (.int (cI n))], []) (sh0, σ') Q) → px_W L xs mX2_year (63, [some (.ref 0), some (.int s), some (.int (nI n)), some (.int w), some (.int b), some (.int (nI dr)), some (.int (cI i))], []) (sh0, σ) Q
  | 0, i, dr, X, σ, hi, hd, hX, hq => by
    obtain rfl : i = n := by omega
    exact hq σ _ hX (kC.rf σ)
  | m + 1, i, dr, X, σ, hi, hdr, hX, hq => by
    obtain ⟨d, hd⟩ : ∃ d, d = (75 * dr + 74) % 65537 := ⟨_, rfl⟩
    have hd7 : d < 65537 := by omega
    obtain ⟨σ1, hT, hX1, hk1⟩ := take_all (L := L) (xs := xs) (k := d / 8 % 8) (by omega) hX (yk_4 (d % 8))
    refine yX_turn σ h60 s w b (by omega) hdr hd hd7 hT ?_
    have e1 := hk1.1 11 (by decide) (by decide)
    have e2 := hk1.1 12 (by decide) (by decide)
    have e3 := hk1.1 13 (by decide) (by decide)
    have e5 := hk1.1 15 (by decide) (by decide)
    refine yX_all h60 s w b m (i + 1) d _ σ1 (by omega) hd7 hX1 (fun σ' x a1 a2 => hq σ' x ?_ (hk1.tr a2))
    rw [e1, e2, e3, e5] at a1
    rw [yr, ← hd]
    exact a1
theorem okX_if {h u g n : Nat → Int32} {kn k : Nat} {X : TS} (hk : k < 8) (hok : okX h u g n X) : okX h u g n (if rsn h u g n kn k X = 0 then stp h u g n kn k X else X) := by
  by_cases hr : rsn h u g n kn k X = 0
  · rw [if_pos hr]; exact okX_stp hk hok hr
  · rw [if_neg hr]; exact hok
theorem yM_all {Q : Option Value → px_H → Prop} {n : Nat} (h60 : n < 1000) (s w : Int32) : ∀ (m i dr : Nat) (X : TS) (σ : px_Sg), i + m = n → dr < 65537 → rM σ X → okX (σ 41) (σ 42) (σ 43) (σ 45) X → (∀ σ' x, rM σ' (yr (σ 41) (σ 42) (σ 43) (σ 45) m dr X) → kM σ σ' → px_W L xs mX3_year (43, [some (.ref 40), some (.int s), some (.int (nI n)), some (.int w), some (.int x), some (.int (cI n)), none, none], []) (sh0, σ') Q) → px_W L xs mX3_year (43, [some (.ref 40), some (.int s), some (.int (nI n)), some (.int w), some (.int (nI dr)), some (.int (cI i)), none, none], []) (sh0, σ) Q
  | 0, i, dr, X, σ, hi, hd, hX, hok, hq => by
    obtain rfl : i = n := by omega
    exact hq σ _ hX (kM.rf σ)
  | m + 1, i, dr, X, σ, hi, hdr, hX, hok, hq => by
    obtain ⟨d, hd⟩ : ∃ d, d = (75 * dr + 74) % 65537 := ⟨_, rfl⟩
    have hd7 : d < 65537 := by omega
    have hk8 : d / 8 % 8 < 8 := by omega
    have hz := okX_z hok
    have h3 := hX.2.2.1
    obtain ⟨r1, r2, r4⟩ := rsn_M hX hk8
    have goOn : ∀ σ1, rM σ1 (if rsn (σ 41) (σ 42) (σ 43) (σ 45) (yk (d % 8)) (d / 8 % 8) X = 0 then stp (σ 41) (σ 42) (σ 43) (σ 45) (yk (d % 8)) (d / 8 % 8) X else X) → kM σ σ1 → px_W L xs mX3_year (43, [some (.ref 40), some (.int s), some (.int (nI n)), some (.int w), some (.int (nI d)), some (.int (cI (i + 1))), none, none], []) (sh0, σ1) Q := fun σ1 hX1 hk1 => by
      have e1 := hk1.1 41 (by decide) (by decide)
      have e2 := hk1.1 42 (by decide) (by decide)
      have e3 := hk1.1 43 (by decide) (by decide)
      have e5 := hk1.1 45 (by decide) (by decide)
      refine yM_all h60 s w m (i + 1) d _ σ1 (by omega) hd7 hX1 (by rw [e1, e2, e3, e5]; exact okX_if hk8 hok) (fun σ' x a1 a2 => hq σ' x ?_ (hk1.tr a2))
      rw [e1, e2, e3, e5] at a1
      rw [yr, ← hd]
      exact a1
    by_cases j0 : d % 8 = 0
    · refine yM_sit σ h60 s w (by omega) hdr hd hd7 j0 (goOn _ ?_ ?_)
      · rw [j0]; exact (sit_M (k := d / 8 % 8) hX hz).1
      · exact (sit_M (k := d / 8 % 8) hX hz).2
    · by_cases j1 : d % 8 = 1
      · obtain ⟨m1, m2⟩ := over_M (k := d / 8 % 8) hX hok
        have hp : σ 49 (d / 8 % 8) = X.1 (d / 8 % 8) := hX.1 _ hk8
        obtain ⟨a, b, q1, q2, q3, q4, q5⟩ := hok.1 (d / 8 % 8) hk8
        refine yM_over σ h60 s w (by omega) hdr hd hd7 j1 (fun hA => goOn _ ?_ (kM.rf σ)) (fun hB => goOn _ ?_ m2)
        · have hr : ¬ rsn (σ 41) (σ 42) (σ 43) (σ 45) 2 (d / 8 % 8) X = 0 := by
            have h0 : σ 49 (d / 8 % 8) = 0 := by
              rw [hp, q4] at hA ⊢
              have : b = 0 := by
                rcases Nat.eq_zero_or_pos b with q | q
                · exact q
                · exact absurd hA (nI_ge (b := b) (a := 0) q (by omega))
              rw [this]; rfl
            rw [← r2]; unfold wO; rw [if_pos h0]; decide
          rw [j1, show yk 1 = 2 from rfl, if_neg hr]
          exact hX
        · have hr : rsn (σ 41) (σ 42) (σ 43) (σ 45) 2 (d / 8 % 8) X = 0 := by
            rw [← r2]; unfold wO; rw [if_neg (fun z => hB (by rw [z]; decide))]
          rw [j1, show yk 1 = 2 from rfl, if_pos hr]
          exact m1
      · by_cases j4 : d % 8 < 4
        · have hy : yk (d % 8) = 4 := by
            have : d % 8 = 2 ∨ d % 8 = 3 := by omega
            rcases this with q | q <;> rw [q] <;> rfl
          have hT := t_whyNoAct (L := L) (xs := xs) σ (by rw [h3]; exact hz) hk8
          rw [r4] at hT
          obtain ⟨m1, m2⟩ := make_M (k := d / 8 % 8) hX
          refine yM_make σ h60 s w (by omega) hdr hd hd7 ⟨by omega, j4⟩ hT (fun hr => goOn _ ?_ m2) (fun hr => goOn _ ?_ (kM.rf σ))
          · rw [hy, if_pos hr]; exact m1
          · rw [hy, if_neg hr]; exact hX
        · have hy : yk (d % 8) = 1 := by
            have : d % 8 = 4 ∨ d % 8 = 5 ∨ d % 8 = 6 ∨ d % 8 = 7 := by omega
            rcases this with q | q | q | q <;> rw [q] <;> rfl
          have hT := t_whyNoHour (L := L) (xs := xs) σ hk8
          rw [r1] at hT
          obtain ⟨m1, m2⟩ := paint_M hk8 hX
          refine yM_paint σ h60 s w (by omega) hdr hd hd7 (by omega) hT (fun hr => goOn _ ?_ m2) (fun hr => goOn _ ?_ (kM.rf σ))
          · rw [hy, if_pos hr]; exact m1
          · rw [hy, if_neg hr]; exact hX
theorem kM.fM {a b : px_Sg} (h : kM a b) : fM a b := ⟨h.1, fun j hj => h.2 j (Or.inl hj)⟩
theorem cp10_o {k : Nat} (h : ¬ (10 ≤ k ∧ k ≤ 18)) : s_copy_10_1 σ k = σ k := by
  simp [s_copy_10_1, px_up, show k ≠ 10 by omega, show k ≠ 11 by omega, show k ≠ 12 by omega, show k ≠ 13 by omega, show k ≠ 14 by omega, show k ≠ 15 by omega, show k ≠ 16 by omega, show k ≠ 17 by omega, show k ≠ 18 by omega]
theorem rC_cp (σ : px_Sg) : rC (s_copy_10_1 σ) (σ 5, σ 1 8, σ 1 9, 0, 0, 0) := ⟨by simp [s_copy_10_1, px_up], by simp [s_copy_10_1, px_up, upd], by simp [s_copy_10_1, px_up, upd], by simp [s_copy_10_1, px_up, upd], by simp [s_copy_10_1, px_up, upd], by simp [s_copy_10_1, px_up, upd]⟩
theorem rM_as (σ : px_Sg) : rM (s_asNow σ) (σ 44, σ 40 5, σ 40 6, 0, 0, 0) := ⟨fun k hk => by rw [asN_49]; exact cpn_lt _ _ hk, asN_13 σ, asN_14 σ, asN_15 σ, asN_17 σ, asN_16 σ⟩
theorem Sm.c10 {σ' : px_Sg} (h : ∀ k, ¬ (10 ≤ k ∧ k ≤ 18) → σ' k = σ k) : Sm σ σ' := ⟨fun k hk => h k (by omega), by rw [h 0 (by omega)], by rw [h 0 (by omega)], by rw [h 40 (by omega)], by rw [h 40 (by omega)], by rw [h 40 (by omega)], by rw [h 40 (by omega)]⟩
theorem iB_ex {x : Int32} {a b : Nat} (ha : a < 2147483648) (hb : b < 2147483648) (h : iB x (nI a) (nI b) = true) : ∃ k, a ≤ k ∧ k ≤ b ∧ x = nI k := by
  unfold iB at h
  simp only [Bool.and_eq_true, Bool.not_eq_true', decide_eq_false_iff_not] at h
  have h0 : ¬ x < 0 := fun q => h.1 (Int32.lt_of_lt_of_le q (nI_le (a := 0) (by omega) ha))
  obtain ⟨j, hj, rfl⟩ := nI_of h0
  refine ⟨j, ?_, ?_, rfl⟩
  · rcases Nat.lt_or_ge j a with q | q
    · exact absurd (nI_lt q ha) h.1
    · exact q
  · rcases Nat.lt_or_ge b j with q | q
    · exact absurd (nI_lt q hj) h.2
    · exact q
theorem o_year (hR : Rel σ) (p q w : Int32) : Op L xs mX2_year mX3_year [.int p, .int q, .int w] σ := by
  have hz : σ 1 9 = 0 ∨ σ 1 9 = 1 := hR.1.2.2.2.2.2.1
  cases hv : (iB p 0 9999 && iB q 1 99 && iB w 0 2) with
  | false => exact ⟨_, σ, σ, tX_year0 σ p q w hv, tM_year0 σ p q w hv, hR⟩
  | true =>
    obtain ⟨v1, v2, v3⟩ := yr_B hv
    obtain ⟨dr, -, hdr, rfl⟩ := iB_ex (a := 0) (b := 9999) (by omega) (by omega) v1
    obtain ⟨n, -, hn, rfl⟩ := iB_ex (a := 1) (b := 99) (by omega) (by omega) v2
    obtain ⟨k, hk, rfl⟩ := iB_lit 2 (by decide) v3
    -- the class
    have hX : ∀ Q' : Option Value → px_Sg → Prop, (∀ σ', rC σ' (yr (σ 2) (σ 3) (σ 4) (σ 6) n dr (σ 5, σ 1 8, σ 1 9, 0, 0, 0)) → (∀ k, ¬ (10 ≤ k ∧ k ≤ 18) → σ' k = σ k) → Q' (some (.int (ych k (σ' 10 12) (σ' 10 13) (σ' 10 14)))) σ') → px_P L xs mX2_year [.ref 0, .int (nI dr), .int (nI n), .int (cI k)] σ Q' := fun Q' hq => by
      refine yX_0 σ hz _ _ _ hv ?_
      refine yX_all (by omega) (nI dr) (cI k) 1 n 0 dr _ (s_copy_10_1 σ) (by omega) (by omega) (rC_cp σ) ?_
      intro σ' x a1 a2
      have e1 : s_copy_10_1 σ 11 = σ 2 := by simp [s_copy_10_1, px_up]
      have e2 : s_copy_10_1 σ 12 = σ 3 := by simp [s_copy_10_1, px_up]
      have e3 : s_copy_10_1 σ 13 = σ 4 := by simp [s_copy_10_1, px_up]
      have e5 : s_copy_10_1 σ 15 = σ 6 := by simp [s_copy_10_1, px_up]
      rw [e1, e2, e3, e5] at a1
      have hs : ∀ k, ¬ (10 ≤ k ∧ k ≤ 18) → σ' k = σ k := fun k hk => by rw [a2.1 k (by omega) (by omega), cp10_o hk]
      have hfin := hq σ' a1 hs
      match k, hk, hfin with
      | 0, _, hfin => exact yX_end0 σ' (by omega) _ _ _ ⟨σ', rfl, hfin⟩
      | 1, _, hfin => exact yX_end1 σ' (by omega) _ _ _ ⟨σ', rfl, hfin⟩
      | 2, _, hfin => exact yX_end2 σ' (by omega) _ _ _ ⟨σ', rfl, hfin⟩
    obtain ⟨v, σ1, x1, x2, x3, x4⟩ := (hX (fun r σ' => r = some (.int (ych k (σ' 10 12) (σ' 10 13) (σ' 10 14))) ∧ rC σ' (yr (σ 2) (σ 3) (σ 4) (σ 6) n dr (σ 5, σ 1 8, σ 1 9, 0, 0, 0)) ∧ ∀ k, ¬ (10 ≤ k ∧ k ≤ 18) → σ' k = σ k) (fun σ' a b => ⟨rfl, a, b⟩)).E
    have hR1 := hR.sm (Sm.c10 x4)
    obtain ⟨r1, r2, ⟨e1, e2, e3, e4, e5, e6⟩, r4, r5, -⟩ := hR1
    have hM : ∀ Q' : Option Value → px_Sg → Prop, (∀ σ', rM σ' (yr (σ 2) (σ 3) (σ 4) (σ 6) n dr (σ 5, σ 1 8, σ 1 9, 0, 0, 0)) → fM σ1 σ' → Q' (some (.int (ych k (σ' 40 15) (σ' 40 17) (σ' 40 16)))) σ') → px_P L xs mX3_year [.ref 40, .int (nI dr), .int (nI n), .int (cI k)] σ1 Q' := fun Q' hq => by
      refine yM_0 σ1 _ _ _ hv ?_
      have o1 := asN_o σ1 (k := 41) (by decide) (by decide)
      have o2 := asN_o σ1 (k := 42) (by decide) (by decide)
      have o3 := asN_o σ1 (k := 43) (by decide) (by decide)
      have o5 := asN_o σ1 (k := 45) (by decide) (by decide)
      refine yM_all (by omega) (nI dr) (cI k) n 0 dr _ (s_asNow σ1) (by omega) (by omega) (rM_as σ1) (by rw [o1, o2, o3, o5]; exact (hR.sm (Sm.c10 x4)).ok) ?_
      intro σ' x a1 a2
      rw [o1, o2, o3, o5, e1, e2, e3, e4, e5, r4, r5, x4 1 (by omega), x4 2 (by omega), x4 3 (by omega), x4 4 (by omega), x4 5 (by omega), x4 6 (by omega)] at a1
      have hf : fM σ1 σ' := by
        have : fM σ1 (s_asNow σ1) := ⟨fun k a b => asN_o σ1 a b, fun j hj => by simp [s_asNow, px_up, upd, show j ≠ 13 by omega, show j ≠ 14 by omega, show j ≠ 15 by omega, show j ≠ 16 by omega, show j ≠ 17 by omega]⟩
        exact this.tr a2.fM
      have hfin := hq σ' a1 hf
      match k, hk, hfin with
      | 0, _, hfin => exact yM_end0 σ' (by omega) _ _ ⟨σ', rfl, hfin⟩
      | 1, _, hfin => exact yM_end1 σ' (by omega) _ _ ⟨σ', rfl, hfin⟩
      | 2, _, hfin => exact yM_end2 σ' (by omega) _ _ ⟨σ', rfl, hfin⟩
    obtain ⟨v', σ2, y1, y2, y3, y4⟩ := (hM (fun r σ' => r = some (.int (ych k (σ' 40 15) (σ' 40 17) (σ' 40 16))) ∧ rM σ' (yr (σ 2) (σ 3) (σ 4) (σ 6) n dr (σ 5, σ 1 8, σ 1 9, 0, 0, 0)) ∧ fM σ1 σ') (fun σ' a b => ⟨rfl, a, b⟩)).E
    obtain ⟨c1, c2, c3, c4, c5, c6⟩ := x3
    obtain ⟨d1, d2, d3, d4, d5, d6⟩ := y3
    subst x2 y2
    refine Op.of x1 y1 ?_ ((hR.sm (Sm.c10 x4)).sm y4.Sm)
    match k, hk with
    | 0, _ => show Value.int (σ2 40 15) = Value.int (σ1 10 12); rw [d4, c4]
    | 1, _ => show Value.int (σ2 40 17) = Value.int (σ1 10 13); rw [d5, c5]
    | 2, _ => show Value.int (σ2 40 16) = Value.int (σ1 10 14); rw [d6, c6]
end OPS7
