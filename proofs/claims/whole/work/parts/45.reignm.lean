/-! the reference's run of the trial -/
def fM (σ σ' : px_Sg) : Prop := (∀ k, k ≠ 40 → k ≠ 49 → σ' k = σ k) ∧ ∀ j, j < 13 → σ' 40 j = σ 40 j
theorem fM.rf (σ : px_Sg) : fM σ σ := ⟨fun _ _ _ => rfl, fun _ _ => rfl⟩
theorem fM.tr {a b c : px_Sg} (x : fM a b) (y : fM b c) : fM a c := ⟨fun k h1 h2 => (y.1 k h1 h2).trans (x.1 k h1 h2), fun j h => (y.2 j h).trans (x.2 j h)⟩
theorem fM.k {σ σ' : px_Sg} (h : kM σ σ') : fM σ σ' := ⟨h.1, fun j hj => h.2 j (Or.inl hj)⟩
theorem fM.up (σ : px_Sg) {j : Nat} (hj : 17 < j) (v : Int32) : fM σ (px_up σ 40 (upd (σ 40) j v)) := ⟨fun k a b => by simp [px_up, a], fun i hi => by simp [px_up, upd, show i ≠ j by omega]⟩
theorem rM.up {σ : px_Sg} {X : TS} (h : rM σ X) {j : Nat} (hj : 17 < j) (v : Int32) : rM (px_up σ 40 (upd (σ 40) j v)) X := by
  obtain ⟨h1, h2, h3, h4, h5, h6⟩ := h
  refine ⟨fun k hk => by simp [px_up, h1 k hk], ?_, ?_, ?_, ?_, ?_⟩
  · simp [px_up, upd, show 13 ≠ j by omega, h2]
  · simp [px_up, upd, show 14 ≠ j by omega, h3]
  · simp [px_up, upd, show 15 ≠ j by omega, h4]
  · simp [px_up, upd, show 17 ≠ j by omega, h5]
  · simp [px_up, upd, show 16 ≠ j by omega, h6]
/-- a turn that goes on: the reason is written, the step taken, the steps counted -/
theorem go_step {L : Nat} {xs : Nat → Int32} {Q : Option Value → px_H → Prop} {n : Nat} {σ σ1 σ2 : px_Sg} {Y : TS} {st : Nat} {v : Int32} (hn : σ 40 10 = nI n) (h9 : σ 40 19 = cI st) (e1 : σ1 = px_up σ 40 (upd (σ 40) 18 v)) (hk : kM σ1 σ2) (hY : rM σ2 Y) : rM (px_up σ2 40 (upd (σ2 40) 19 (σ2 40 19 + 1))) Y ∧ fM σ (px_up σ2 40 (upd (σ2 40) 19 (σ2 40 19 + 1))) ∧ (px_up σ2 40 (upd (σ2 40) 19 (σ2 40 19 + 1))) 40 10 = nI n ∧ (px_up σ2 40 (upd (σ2 40) 19 (σ2 40 19 + 1))) 40 19 = cI (st + 1) := by
  have f1 : fM σ σ1 := by rw [e1]; exact fM.up σ (by decide) v
  have f2 := (f1.tr (fM.k hk)).tr (fM.up σ2 (j := 19) (by decide) (σ2 40 19 + 1))
  refine ⟨hY.up (by decide) _, f2, (f2.2 10 (by decide)).trans hn, ?_⟩
  have h1 : σ2 40 19 = σ 40 19 := by rw [hk.2 19 (by decide), e1]; simp [px_up, upd]
  simp [px_up, upd, h1, h9, cI]
theorem okX_z {h u g n : Nat → Int32} {X : TS} (hok : okX h u g n X) : X.2.2.1 = 0 ∨ X.2.2.1 = 1 := hok.2.2.2.2.2.1
abbrev goR (σ : px_Sg) (d i st : Nat) (X : TS) : Int32 × Nat × TS := rgn (σ 41) (σ 42) (σ 43) (σ 45) (σ 48) d i false st X
theorem go_all {L : Nat} {xs : Nat → Int32} {Q : Option Value → px_H → Prop} {n : Nat} (h60 : n ≤ 60) : ∀ (N d : Nat), d ≤ N → ∀ (i st : Nat) (X : TS) (σ : px_Sg), σ 40 10 = nI n → i + d = n → fau (σ 48) d i false = -6 → rM σ X → okX (σ 41) (σ 42) (σ 43) (σ 45) X → σ 40 19 = cI st → (∀ σ', rM σ' (goR σ d i st X).2.2 → okX (σ 41) (σ 42) (σ 43) (σ 45) (goR σ d i st X).2.2 → σ' 40 19 = cI (goR σ d i st X).2.1 → (¬ (goR σ d i st X).1 = 0 → σ' 40 18 = (goR σ d i st X).1) → fM σ σ' → Q (some (.int (if (goR σ d i st X).1 = 0 then -6 else cI (goR σ d i st X).2.1))) (sh0, σ')) → px_W L xs mX3_goReign (11, [some (.ref 40), some (.int (cI i)), none], []) (sh0, σ) Q
  | _, 0, _, i, st, X, σ, hn, hd, hf, hX, hok, h9, hq => by
    obtain rfl : i = n := by omega
    have := hq σ hX hok h9 (fun q => absurd rfl q) (fM.rf σ)
    exact go_end (i := 0) σ hn h60 this
  | 0, d + 1, hN, _, _, _, _, _, _, _, _, _, _, _ => by omega
  | N + 1, d + 1, hN, i, st, X, σ, hn, hd, hf, hX, hok, h9, hq => by
    obtain ⟨hb, hf'⟩ := fau_s (by omega) hf
    have hz := okX_z hok
    have h3 := hX.2.2.1
    obtain ⟨r1, r2, r4⟩ := rsn_M hX (nbn_c (σ 48 i)).2
    -- what is common: a step of kind kn that can be
    have goOn : ∀ (kn k : Nat) (σ3 : px_Sg), k < 8 → rsn (σ 41) (σ 42) (σ 43) (σ 45) kn k X = 0 → ∀ (d' i' : Nat), d' ≤ N → i' + d' = n → fau (σ 48) d' i' false = -6 → goR σ (d + 1) i st X = goR σ d' i' (st + 1) (stp (σ 41) (σ 42) (σ 43) (σ 45) kn k X) → rM σ3 (stp (σ 41) (σ 42) (σ 43) (σ 45) kn k X) ∧ fM σ σ3 ∧ σ3 40 10 = nI n ∧ σ3 40 19 = cI (st + 1) → px_W L xs mX3_goReign (11, [some (.ref 40), some (.int (cI i')), none], []) (sh0, σ3) Q := by
      intro kn k σ3 hk hr d' i' hd' hi' hfa heq ⟨a1, a2, a3, a4⟩
      have e := a2.1
      refine go_all h60 N d' hd' i' (st + 1) _ σ3 a3 hi' (by rw [e 48 (by decide) (by decide)]; exact hfa) a1 (by rw [e 41 (by decide) (by decide), e 42 (by decide) (by decide), e 43 (by decide) (by decide), e 45 (by decide) (by decide)]; exact okX_stp hk hok hr) a4 ?_
      have e2 : goR σ3 d' i' (st + 1) (stp (σ 41) (σ 42) (σ 43) (σ 45) kn k X) = goR σ (d + 1) i st X := by
        rw [heq]
        show rgn (σ3 41) (σ3 42) (σ3 43) (σ3 45) (σ3 48) _ _ _ _ _ = _
        rw [e 41 (by decide) (by decide), e 42 (by decide) (by decide), e 43 (by decide) (by decide), e 45 (by decide) (by decide), e 48 (by decide) (by decide)]
      rw [e2, e 41 (by decide) (by decide), e 42 (by decide) (by decide), e 43 (by decide) (by decide), e 45 (by decide) (by decide)]
      intro σ' b1 b2 b3 b4 b5
      exact hq σ' b1 b2 b3 b4 (a2.tr b5)
    by_cases h2 : kd (σ 48 i) = 2
    · -- over
      rw [h2] at hf'
      have hgo : goR σ (d + 1) i st X = rgn (σ 41) (σ 42) (σ 43) (σ 45) (σ 48) d (i + 1) true st X := by show rgn _ _ _ _ _ _ _ _ _ _ = _; rw [rgn, if_pos h2]
      match d, hd, hN, hf', hgo, hq, goOn with
      | 0, _, _, hf', _, _, _ => exact absurd hf' (cI_n6 (by omega))
      | d + 1, hd, hN, hf', hgo, hq, goOn =>
        obtain ⟨hb2, hf2⟩ := fau_s (by omega) hf'
        have hk1 : kd (σ 48 (i + 1)) = 1 := by simpa [bad] using hb2
        have hk2 : ¬ kd (σ 48 (i + 1)) = 2 := by rw [hk1]; decide
        rw [decide_eq_false hk2] at hf2
        obtain ⟨hc, h7⟩ := nbn_c (σ 48 (i + 1))
        have hy : σ 48 (i + 1) - 97 = cI (nbn (σ 48 (i + 1))) := by rw [← hc, nb, if_pos hk1]
        have hkn : knd (σ 48 (i + 1)) true = 2 := rfl
        have hrs : rsn (σ 41) (σ 42) (σ 43) (σ 45) 2 (nbn (σ 48 (i + 1))) X = wO (σ 49) (nbn (σ 48 (i + 1))) := (rsn_M hX h7).2.1.symm
        refine go_over σ hn h60 (by omega) ((kd_2 _).mp h2) (by omega) h7 hy (fun hA => ?_) (fun hB => ?_)
        · have hr : rsn (σ 41) (σ 42) (σ 43) (σ 45) 2 (nbn (σ 48 (i + 1))) X = 0 := by rw [hrs]; unfold wO; rw [if_neg hA]
          have hX1 : rM (px_up σ 40 (upd (σ 40) 18 0)) X := hX.up (by decide) 0
          obtain ⟨m1, m2⟩ := over_M (k := nbn (σ 48 (i + 1))) hX1 hok
          refine goOn 2 (nbn (σ 48 (i + 1))) _ h7 hr d (i + 1 + 1) (by omega) (by omega) hf2 ?_ (go_step (L := L) (xs := xs) (Q := Q) hn h9 rfl m2 m1)
          rw [hgo]
          show rgn _ _ _ _ _ _ _ _ _ _ = rgn _ _ _ _ _ _ _ _ _ _
          rw [rgn, if_neg hk2, hkn, if_pos hr]
        · have hr : rsn (σ 41) (σ 42) (σ 43) (σ 45) 2 (nbn (σ 48 (i + 1))) X = 4 := by rw [hrs]; unfold wO; rw [if_pos hB]
          have hgo2 : goR σ (d + 1 + 1) i st X = (4, st, X) := by
            rw [hgo, rgn, if_neg hk2, hkn, if_neg (by rw [hr]; decide), hr]
          rw [hgo2] at hq
          have := hq (px_up σ 40 (upd (σ 40) 18 4)) (hX.up (by decide) 4) hok (by simp [px_up, upd, h9]) (fun _ => by simp [px_up, upd]) (fM.up σ (by decide) 4)
          rw [h9]
          exact this
    · rw [decide_eq_false h2] at hf'
      have h0 : ¬ kd (σ 48 i) = 0 := by simpa [bad] using hb
      obtain ⟨hc, h7⟩ := nbn_c (σ 48 i)
      have hgoA : ∀ kn, knd (σ 48 i) false = kn → rsn (σ 41) (σ 42) (σ 43) (σ 45) kn (nbn (σ 48 i)) X = 0 → goR σ (d + 1) i st X = goR σ d (i + 1) (st + 1) (stp (σ 41) (σ 42) (σ 43) (σ 45) kn (nbn (σ 48 i)) X) := fun kn hkn hr => by
        show rgn _ _ _ _ _ _ _ _ _ _ = rgn _ _ _ _ _ _ _ _ _ _
        rw [rgn, if_neg h2, hkn, if_pos hr]
      have hgoB : ∀ kn, knd (σ 48 i) false = kn → ¬ rsn (σ 41) (σ 42) (σ 43) (σ 45) kn (nbn (σ 48 i)) X = 0 → Q (some (.int (σ 40 19))) (sh0, (px_up σ 40 (upd (σ 40) 18 (rsn (σ 41) (σ 42) (σ 43) (σ 45) kn (nbn (σ 48 i)) X)))) := fun kn hkn hr => by
        have hgo2 : goR σ (d + 1) i st X = (rsn (σ 41) (σ 42) (σ 43) (σ 45) kn (nbn (σ 48 i)) X, st, X) := by
          show rgn _ _ _ _ _ _ _ _ _ _ = _
          rw [rgn, if_neg h2, hkn, if_neg hr]
        rw [hgo2] at hq
        have := hq (px_up σ 40 (upd (σ 40) 18 (rsn (σ 41) (σ 42) (σ 43) (σ 45) kn (nbn (σ 48 i)) X))) (hX.up (by decide) _) hok (by simp [px_up, upd, h9]) (fun _ => by simp [px_up, upd]) (fM.up σ (by decide) _)
        rw [if_neg hr] at this
        rw [h9]
        exact this
      rcases kd_all (σ 48 i) with q | q | q | q | q
      · exact absurd q h0
      · have hkn : knd (σ 48 i) false = 1 := by simp [knd, q]
        have hy : σ 48 i - 97 = cI (nbn (σ 48 i)) := by rw [← hc, nb, if_pos q]
        have hT := t_whyNoHour (L := L) (xs := xs) σ h7
        rw [r1] at hT
        refine go_paint σ hn h60 (by omega) (by rw [kd_1]; simp [q]) h7 hy hT rsn_pos (fun hr => ?_) (hgoB 1 hkn)
        have hX1 : rM (px_up σ 40 (upd (σ 40) 18 (rsn (σ 41) (σ 42) (σ 43) (σ 45) 1 (nbn (σ 48 i)) X))) X := hX.up (by decide) _
        obtain ⟨m1, m2⟩ := paint_M h7 hX1
        exact goOn 1 (nbn (σ 48 i)) _ h7 hr d (i + 1) (by omega) (by omega) hf' (hgoA 1 hkn hr) (go_step (L := L) (xs := xs) (Q := Q) hn h9 rfl m2 m1)
      · exact absurd q h2
      · have hkn : knd (σ 48 i) false = 3 := by simp [knd, q]
        refine go_sit σ hn h60 (by omega) ((kd_3 _).mp q) ?_
        have hX1 : rM (px_up σ 40 (upd (σ 40) 18 0)) X := hX.up (by decide) 0
        obtain ⟨m1, m2⟩ := sit_M (k := nbn (σ 48 i)) hX1 hz
        have := goOn 3 (nbn (σ 48 i)) _ h7 rfl d (i + 1) (by omega) (by omega) hf' (hgoA 3 hkn rfl) (go_step (L := L) (xs := xs) (Q := Q) hn h9 rfl m2 m1)
        exact this
      · have hkn : knd (σ 48 i) false = 4 := by simp [knd, q]
        have hq1 : ¬ kd (σ 48 i) = 1 := by rw [q]; decide
        have hy : σ 48 i - 65 = cI (nbn (σ 48 i)) := by rw [← hc, nb, if_neg hq1, if_pos q]
        have hT := t_whyNoAct (L := L) (xs := xs) σ (by rw [h3]; exact hz) h7
        rw [r4] at hT
        refine go_make σ hn h60 (by omega) (fun z => by rw [(kd_3 _).mpr z] at q; exact absurd q (by decide)) (fun z => h2 ((kd_2 _).mpr z)) (by rw [kd_1]; simp [q]) h7 hy hT rsn_pos (fun hr => ?_) (hgoB 4 hkn)
        have hX1 : rM (px_up σ 40 (upd (σ 40) 18 (rsn (σ 41) (σ 42) (σ 43) (σ 45) 4 (nbn (σ 48 i)) X))) X := hX.up (by decide) _
        obtain ⟨m1, m2⟩ := make_M (k := nbn (σ 48 i)) hX1
        exact goOn 4 (nbn (σ 48 i)) _ h7 hr d (i + 1) (by omega) (by omega) hf' (hgoA 4 hkn hr) (go_step (L := L) (xs := xs) (Q := Q) hn h9 rfl m2 m1)
