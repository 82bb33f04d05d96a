/-! THE TRIAL OF A REIGN, as numbers, and both sides' runs of it -/
def knd (x : Int32) (w : Bool) : Nat := if w then 2 else if kd x = 1 then 1 else if kd x = 3 then 3 else 4
def nbn (x : Int32) : Nat := (nb x).toBitVec.toNat
theorem kd_lo {x : Int32} (h : kd x = 1) : ¬ x < 97 ∧ ¬ 105 ≤ x := by
  unfold kd at h
  split at h
  · assumption
  · split at h
    · exact absurd h (by decide)
    · split at h
      · exact absurd h (by decide)
      · split at h <;> exact absurd h (by decide)
theorem kd_hi {x : Int32} (h : kd x = 4) : ¬ x < 65 ∧ ¬ 73 ≤ x := by
  unfold kd at h
  split at h
  · exact absurd h (by decide)
  · split at h
    · assumption
    · split at h
      · exact absurd h (by decide)
      · split at h <;> exact absurd h (by decide)
theorem ltr_ex {x : Int32} (b : Nat) (hb : b < 1000) (h1 : ¬ x < nI b) (h2 : ¬ nI (b + 8) ≤ x) : ∃ k, k < 8 ∧ x - nI b = cI k := by
  have h0 : ¬ x < 0 := fun q => h1 (Int32.lt_of_lt_of_le q (nI_le (a := 0) (by omega) (by omega)))
  obtain ⟨j, hj, rfl⟩ := nI_of h0
  have h3 : b ≤ j := by
    rcases Nat.lt_or_ge j b with q | q
    · exact absurd (nI_lt q (by omega)) h1
    · exact q
  have h4 : j < b + 8 := by
    rcases Nat.lt_or_ge j (b + 8) with q | q
    · exact q
    · exact absurd (nI_le q hj) h2
  exact ⟨j - b, by omega, by rw [cI_n]; exact pk_sub h3⟩
theorem nb_ex (x : Int32) : ∃ k, k < 8 ∧ nb x = cI k := by
  unfold nb
  split
  · rename_i h; exact ltr_ex 97 (by decide) (kd_lo h).1 (kd_lo h).2
  · split
    · rename_i h; exact ltr_ex 65 (by decide) (kd_hi h).1 (kd_hi h).2
    · exact ⟨0, by decide, rfl⟩
theorem cI_back : ∀ k, k < 8 → (cI k).toBitVec.toNat = k := by decide +kernel
theorem nbn_c (x : Int32) : nb x = cI (nbn x) ∧ nbn x < 8 := by
  obtain ⟨k, hk, e⟩ := nb_ex x
  have : nbn x = k := by unfold nbn; rw [e, cI_back k hk]
  rw [this]; exact ⟨e, hk⟩
def rgn (h u g n sg : Nat → Int32) : Nat → Nat → Bool → Nat → TS → Int32 × Nat × TS
  | 0, _, _, st, X => (0, st, X)
  | d + 1, i, w, st, X => if kd (sg i) = 2 then rgn h u g n sg d (i + 1) true st X else if rsn h u g n (knd (sg i) w) (nbn (sg i)) X = 0 then rgn h u g n sg d (i + 1) false (st + 1) (stp h u g n (knd (sg i) w) (nbn (sg i)) X) else (rsn h u g n (knd (sg i) w) (nbn (sg i)) X, st, X)
theorem cI_n6 {i : Nat} (h : i < 1000) : ¬ cI i = -6 := fun q => by
  rw [cI_n] at q
  have h1 : ¬ nI i < 0 := nI_pos (by omega)
  rw [q] at h1
  exact h1 (by decide)
theorem fau_s {sg : Nat → Int32} {d i : Nat} {w : Bool} (hi : i < 1000) (h : fau sg (d + 1) i w = -6) : bad (sg i) w = false ∧ fau sg d (i + 1) (decide (kd (sg i) = 2)) = -6 := by
  rw [fau] at h
  split at h
  · exact absurd h (cI_n6 hi)
  · rename_i q; exact ⟨by simpa using q, h⟩
theorem rsn_pos {h u g n : Nat → Int32} {kn k : Nat} {X : TS} (hr : ¬ rsn h u g n kn k X = 0) : ¬ rsn h u g n kn k X ≤ 0 := by
  have key : rsn h u g n kn k X = 0 ∨ rsn h u g n kn k X = 1 ∨ rsn h u g n kn k X = 2 ∨ rsn h u g n kn k X = 3 ∨ rsn h u g n kn k X = 4 ∨ rsn h u g n kn k X = 5 ∨ rsn h u g n kn k X = 6 := by
    unfold rsn
    split
    · unfold wP; split <;> (try split) <;> (try split) <;> simp
    · unfold wO; split <;> simp
    · simp
    · unfold wM; split <;> (try split) <;> simp
  rcases key with q | q | q | q | q | q | q
  · exact absurd q hr
  all_goals (rw [q]; decide)
theorem take_all {L : Nat} {xs : Nat → Int32} {σ : px_Sg} {X : TS} {kn k : Nat} (hk : k < 8) (h : rC σ X) (hkn : kn = 1 ∨ kn = 2 ∨ kn = 3 ∨ kn = 4) : ∃ σ1, px_E L xs mX1_takeIfItCanBe [.ref 10, .int (nI kn), .int (cI k)] σ (some (.int (rsn (σ 11) (σ 12) (σ 13) (σ 15) kn k X))) σ1 ∧ rC σ1 (if rsn (σ 11) (σ 12) (σ 13) (σ 15) kn k X = 0 then stp (σ 11) (σ 12) (σ 13) (σ 15) kn k X else X) ∧ kC σ σ1 := by
  have hh := h
  obtain ⟨h1, h2, h3, h4, h5, h6⟩ := hh
  rcases hkn with q | q | q | q <;> subst q
  · refine ⟨_, ?_, take1_C h⟩
    have := t10_take1 (L := L) (xs := xs) σ hk
    rw [h1, h3] at this
    exact this
  · refine ⟨_, ?_, take2_C h⟩
    have := t10_take2 (L := L) (xs := xs) σ hk
    rw [h1] at this
    exact this
  · exact ⟨_, t10_take3 σ hk, take3_C h⟩
  · refine ⟨_, ?_, take4_C h⟩
    have := t10_take4 (L := L) (xs := xs) σ hk
    rw [h1, h2, h3] at this
    exact this
/-- what the class's trial leaves alone -/
def fC (σ σ' : px_Sg) : Prop := (∀ k, k ≠ 0 → k ≠ 10 → k ≠ 14 → σ' k = σ k) ∧ σ' 10 10 = σ 10 10 ∧ σ' 10 11 = σ 10 11 ∧ ∀ j, j ≠ 8 → j ≠ 9 → σ' 0 j = σ 0 j
theorem fC.rf (σ : px_Sg) : fC σ σ := ⟨fun _ _ _ _ => rfl, rfl, rfl, fun _ _ _ => rfl⟩
theorem fC.tr {a b c : px_Sg} (x : fC a b) (y : fC b c) : fC a c := ⟨fun k h1 h2 h3 => (y.1 k h1 h2 h3).trans (x.1 k h1 h2 h3), y.2.1.trans x.2.1, y.2.2.1.trans x.2.2.1, fun j h1 h2 => (y.2.2.2 j h1 h2).trans (x.2.2.2 j h1 h2)⟩
theorem fC.of {σ σ1 σ2 : px_Sg} {f : Nat → Int32} (h : kC σ σ1) (e : σ2 = px_up σ1 0 f) (hf : ∀ j, j ≠ 8 → j ≠ 9 → f j = σ1 0 j) : fC σ σ2 := by
  subst e
  refine ⟨fun k a b c => ?_, ?_, ?_, fun j a b => ?_⟩
  · simp only [px_up, a, if_false]; exact h.1 k b c
  · exact h.2.1
  · exact h.2.2
  · show f j = σ 0 j
    rw [hf j a b, h.1 0 (by decide) (by decide)]
theorem rC.up {σ : px_Sg} {X : TS} (h : rC σ X) (f : Nat → Int32) : rC (px_up σ 0 f) X := h
theorem knd_k {x : Int32} {w : Bool} (hb : bad x w = false) (h2 : ¬ kd x = 2) : (w = true ∧ knd x w = 2) ∨ (w = false ∧ nI (knd x w) = kd x ∧ (knd x w = 1 ∨ knd x w = 3 ∨ knd x w = 4)) := by
  cases w with
  | true => exact Or.inl ⟨rfl, rfl⟩
  | false =>
    right
    have h0 : ¬ kd x = 0 := by simpa [bad] using hb
    unfold knd
    rcases kd_all x with q | q | q | q | q
    · exact absurd q h0
    · simp [q]; rfl
    · exact absurd q h2
    · simp [q]; rfl
    · simp [q]; rfl
theorem try_all {L : Nat} {xs : Nat → Int32} {Q : Option Value → px_H → Prop} {n : Nat} (h60 : n ≤ 60) : ∀ (d i : Nat) (w : Bool) (st : Nat) (X : TS) (σ : px_Sg), σ 37 1 = nI n → i + d = n → fau (σ 38) d i w = -6 → rC σ X → σ 0 8 = 0 → σ 0 9 = cI st → (∀ σ', rC σ' (rgn (σ 11) (σ 12) (σ 13) (σ 15) (σ 38) d i w st X).2.2 → σ' 0 8 = (rgn (σ 11) (σ 12) (σ 13) (σ 15) (σ 38) d i w st X).1 → σ' 0 9 = cI (rgn (σ 11) (σ 12) (σ 13) (σ 15) (σ 38) d i w st X).2.1 → fC σ σ' → Q none (sh0, σ')) → px_W L xs mX2_tryReign (50, [some (.ref 0), some (.int (bo w)), some (.int (cI i)), none], []) (sh0, σ) Q
  | 0, i, w, st, X, σ, hn, hd, hf, hX, h8, h9, hq => by
    obtain rfl : i = n := by omega
    exact try_end (i := 0) σ hn h60 _ (hq σ hX h8 h9 (fC.rf σ))
  | d + 1, i, w, st, X, σ, hn, hd, hf, hX, h8, h9, hq => by
    obtain ⟨hb, hf'⟩ := fau_s (by omega) hf
    by_cases h2 : kd (σ 38 i) = 2
    · refine try_over σ hn h60 (by omega) _ h2 ?_
      rw [h2] at hf'
      exact try_all h60 d (i + 1) true st X σ hn (by omega) hf' hX h8 h9 (by simpa only [rgn, if_pos h2] using hq)
    · obtain ⟨hc, h7⟩ := nbn_c (σ 38 i)
      have hkn : knd (σ 38 i) w = 1 ∨ knd (σ 38 i) w = 2 ∨ knd (σ 38 i) w = 3 ∨ knd (σ 38 i) w = 4 := by
        rcases knd_k hb h2 with ⟨-, q⟩ | ⟨-, -, q⟩ <;> omega
      obtain ⟨σ1, hT, hX1, hk1⟩ := take_all (L := L) (xs := xs) h7 hX hkn
      rw [← hc] at hT
      rw [decide_eq_false h2] at hf'
      have hA : rsn (σ 11) (σ 12) (σ 13) (σ 15) (knd (σ 38 i) w) (nbn (σ 38 i)) X = 0 → px_W L xs mX2_tryReign (50, [some (.ref 0), some (.int 0), some (.int (cI (i + 1))), none], []) (sh0, (px_up (px_up σ1 0 (upd (σ1 0) 8 (rsn (σ 11) (σ 12) (σ 13) (σ 15) (knd (σ 38 i) w) (nbn (σ 38 i)) X))) 0 (upd (upd (σ1 0) 8 (rsn (σ 11) (σ 12) (σ 13) (σ 15) (knd (σ 38 i) w) (nbn (σ 38 i)) X)) 9 ((σ1 0 9) + 1)))) Q := fun hr => by
        rw [if_pos hr] at hX1
        have hfr : fC σ (px_up (px_up σ1 0 (upd (σ1 0) 8 (rsn (σ 11) (σ 12) (σ 13) (σ 15) (knd (σ 38 i) w) (nbn (σ 38 i)) X))) 0 (upd (upd (σ1 0) 8 (rsn (σ 11) (σ 12) (σ 13) (σ 15) (knd (σ 38 i) w) (nbn (σ 38 i)) X)) 9 ((σ1 0 9) + 1))) := fC.of hk1 (px_upup _ _ _ _) (fun j a b => by simp [upd, a, b])
        generalize hσ2 : (px_up (px_up σ1 0 (upd (σ1 0) 8 (rsn (σ 11) (σ 12) (σ 13) (σ 15) (knd (σ 38 i) w) (nbn (σ 38 i)) X))) 0 (upd (upd (σ1 0) 8 (rsn (σ 11) (σ 12) (σ 13) (σ 15) (knd (σ 38 i) w) (nbn (σ 38 i)) X)) 9 ((σ1 0 9) + 1))) = σ2 at hfr ⊢
        have hX2 : rC σ2 (stp (σ 11) (σ 12) (σ 13) (σ 15) (knd (σ 38 i) w) (nbn (σ 38 i)) X) := by rw [← hσ2]; exact hX1
        have e1 : ∀ k, k ≠ 0 → k ≠ 10 → k ≠ 14 → σ2 k = σ k := hfr.1
        have h8' : σ2 0 8 = 0 := by rw [← hσ2]; simp [px_up, upd, hr]
        have h9' : σ2 0 9 = cI (st + 1) := by rw [← hσ2]; simp [px_up, upd, hk1.1 0 (by decide) (by decide), h9, cI]
        refine try_all h60 d (i + 1) false (st + 1) _ σ2 (by rw [e1 37 (by decide) (by decide) (by decide)]; exact hn) (by omega) (by rw [e1 38 (by decide) (by decide) (by decide)]; exact hf') hX2 h8' h9' ?_
        rw [e1 11 (by decide) (by decide) (by decide), e1 12 (by decide) (by decide) (by decide), e1 13 (by decide) (by decide) (by decide), e1 15 (by decide) (by decide) (by decide), e1 38 (by decide) (by decide) (by decide)]
        intro σ' a1 a2 a3 a4
        refine hq σ' ?_ ?_ ?_ (hfr.tr a4)
        · simpa only [rgn, if_neg h2, if_pos hr] using a1
        · simpa only [rgn, if_neg h2, if_pos hr] using a2
        · simpa only [rgn, if_neg h2, if_pos hr] using a3
      have hB : ¬ rsn (σ 11) (σ 12) (σ 13) (σ 15) (knd (σ 38 i) w) (nbn (σ 38 i)) X = 0 → Q none (sh0, (px_up σ1 0 (upd (σ1 0) 8 (rsn (σ 11) (σ 12) (σ 13) (σ 15) (knd (σ 38 i) w) (nbn (σ 38 i)) X)))) := fun hr => by
        rw [if_neg hr] at hX1
        refine hq _ ?_ ?_ ?_ (fC.of hk1 rfl (fun j a b => by simp [upd, a]))
        · simp only [rgn, if_neg h2, if_neg hr]; exact hX1
        · simp only [rgn, if_neg h2, if_neg hr]; simp [px_up, upd]
        · simp only [rgn, if_neg h2, if_neg hr]; simp [px_up, upd, hk1.1 0 (by decide) (by decide), h9]
      rcases knd_k hb h2 with ⟨hw, hk⟩ | ⟨hw, hk, -⟩
      · subst hw
        rw [hk] at hT hA hB
        exact try_w σ hn h60 (by omega) h2 hT hA hB
      · subst hw
        rw [hk] at hT
        exact try_n σ hn h60 (by omega) h2 hT hA hB
