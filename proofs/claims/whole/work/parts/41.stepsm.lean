/-! the same steps by the reference -/
theorem pS_dS_congr {h p p' g : Nat → Int32} (e : ∀ k, k < 8 → p k = p' k) : pS g (dS h p) = pS g (dS h p') := by rw [dS_congr e]
theorem pw_congr {s : Int32} {h p p' g : Nat → Int32} (e : ∀ k, k < 8 → p k = p' k) : pw s h p g = pw s h p' g := by unfold pw; rw [dS_congr e]
theorem wP_congr {s : Int32} {h p p' u : Nat → Int32} (e : ∀ k, k < 8 → p k = p' k) {k : Nat} (hk : k < 8) : wP s h p u k = wP s h p' u k := by unfold wP; rw [dS_congr e, e k hk]
theorem unp_congr {p p' : Nat → Int32} (s : Int32) (e : ∀ k, k < 8 → p k = p' k) : ∀ k, k < 8 → unp p s 8 k = unp p' s 8 k := fun k hk => by rw [unp8 _ _ hk, unp8 _ _ hk, e k hk]
/-- what the steps keep -/
def okX (h u g n : Nat → Int32) (X : TS) : Prop := WFc h u g X.1 n X.2.1 X.2.2.1
theorem paint_M {σ : px_Sg} {X : TS} {k : Nat} (hk : k < 8) (h : rM σ X) : rM (s40_paint σ k) (stp (σ 41) (σ 42) (σ 43) (σ 45) 1 k X) ∧ kM σ (s40_paint σ k) := by
  obtain ⟨h1, h2, h3, h4, h5, h6⟩ := h
  refine ⟨⟨fun j hj => ?_, by simp [s40_paint, px_up, upd, stp, h2], by simp [s40_paint, px_up, upd, stp, h3], by simp [s40_paint, px_up, upd, stp, h4], by simp [s40_paint, px_up, upd, stp, h5], by simp [s40_paint, px_up, upd, stp, h6]⟩, fun j a b => by simp [s40_paint, px_up, a, b], fun j hj => ?_⟩
  · by_cases e : j = k
    · subst e; simp [s40_paint, px_up, upd, stp, h1 j hj]
    · simp [s40_paint, px_up, upd, stp, e, h1 j hj]
  · simp [s40_paint, px_up, upd, show j ≠ 15 by omega]
theorem make_M {σ : px_Sg} {X : TS} {k : Nat} (h : rM σ X) : rM (s40_make σ k) (stp (σ 41) (σ 42) (σ 43) (σ 45) 4 k X) ∧ kM σ (s40_make σ k) := by
  obtain ⟨h1, h2, h3, h4, h5, h6⟩ := h
  refine ⟨⟨fun j hj => by simp [s40_make, px_up, stp, h1 j hj], by simp [s40_make, px_up, upd, stp, h2, on], by simp [s40_make, px_up, upd, stp, h3], by simp [s40_make, px_up, upd, stp, h4], by simp [s40_make, px_up, upd, stp, h5], by simp [s40_make, px_up, upd, stp, h6]⟩, fun j a b => by simp [s40_make, px_up, a], fun j hj => ?_⟩
  simp [s40_make, px_up, upd, show j ≠ 13 by omega, show j ≠ 17 by omega]
/-- he rises or sits down -/
def s40_sit (σ : px_Sg) : px_Sg := px_up σ 40 (upd (σ 40) 14 (1 - σ 40 14))
theorem sit_M {σ : px_Sg} {X : TS} {k : Nat} (h : rM σ X) (hz : X.2.2.1 = 0 ∨ X.2.2.1 = 1) : rM (s40_sit σ) (stp (σ 41) (σ 42) (σ 43) (σ 45) 3 k X) ∧ kM σ (s40_sit σ) := by
  obtain ⟨h1, h2, h3, h4, h5, h6⟩ := h
  refine ⟨⟨fun j hj => by simp [s40_sit, px_up, stp, h1 j hj], by simp [s40_sit, px_up, upd, stp, h2], ?_, by simp [s40_sit, px_up, upd, stp, h4], by simp [s40_sit, px_up, upd, stp, h5], by simp [s40_sit, px_up, upd, stp, h6]⟩, fun j a b => by simp [s40_sit, px_up, a], fun j hj => ?_⟩
  · show (1 : Int32) - σ 40 14 = if X.2.2.1 = 0 then 1 else 0
    rw [h3]
    rcases hz with q | q <;> rw [q] <;> decide
  · simp [s40_sit, px_up, upd, show j ≠ 14 by omega]
/-- over: the now and, where he sits, what is repealed -/
def s40_over1 (σ : px_Sg) (k : Nat) : px_Sg := px_up σ 49 (unp (σ 49) (abS (σ 42) (on k)) 8)
def s40_over2 (σ : px_Sg) (w : Int32) : px_Sg := px_up σ 40 (upd (upd (σ 40) 13 (rpF (σ 45) w (σ 40 13) 8)) 16 (rpC (σ 45) w (σ 40 13) (σ 40 16) 8))
def s40_over (σ : px_Sg) (k : Nat) : px_Sg := if σ 40 14 = 1 then s40_over2 (s40_over1 σ k) (pw (σ 40 14) (σ 41) (unp (σ 49) (abS (σ 42) (on k)) 8) (σ 43)) else s40_over1 σ k
theorem over_M {σ : px_Sg} {X : TS} {k : Nat} (h : rM σ X) (hok : okX (σ 41) (σ 42) (σ 43) (σ 45) X) : rM (s40_over σ k) (stp (σ 41) (σ 42) (σ 43) (σ 45) 2 k X) ∧ kM σ (s40_over σ k) := by
  obtain ⟨h1, h2, h3, h4, h5, h6⟩ := h
  obtain ⟨w1, w2, w3, w4, w5, w6, w7, -⟩ := hok
  have hu : ∀ j, j < 8 → unp (σ 49) (abS (σ 42) (on k)) 8 j = unp X.1 (abS (σ 42) (on k)) 8 j := unp_congr _ h1
  have hpw : pw (σ 40 14) (σ 41) (unp (σ 49) (abS (σ 42) (on k)) 8) (σ 43) = pw X.2.2.1 (σ 41) (unp X.1 (abS (σ 42) (on k)) 8) (σ 43) := by rw [h3]; exact pw_congr hu
  unfold s40_over
  by_cases hs : σ 40 14 = 1
  · rw [if_pos hs, hpw]
    generalize hw : pw X.2.2.1 (σ 41) (unp X.1 (abS (σ 42) (on k)) 8) (σ 43) = w
    refine ⟨⟨hu, ?_, h3, h4, h5, ?_⟩, fun j a b => by simp [s40_over2, s40_over1, px_up, a, b], fun j hj => ?_⟩
    · show rpF (σ 45) w (σ 40 13) 8 = X.2.1 &&& aS (σ 45) (pw X.2.2.1 (σ 41) (unp X.1 (abS (σ 42) (on k)) 8) (σ 43))
      rw [hw, h2, rpF_aS w5]
    · show rpC (σ 45) w (σ 40 13) (σ 40 16) 8 = X.2.2.2.2.2 + bc (X.2.1 &&& (aS (σ 45) (pw X.2.2.1 (σ 41) (unp X.1 (abS (σ 42) (on k)) 8) (σ 43)) ^^^ -1))
      rw [hw, h2, h6, rpC_pcn _ _ _ _ 8 (by omega), bc_lo (lo_and _ w5)]
    · simp [s40_over2, s40_over1, px_up, upd, show j ≠ 13 by omega, show j ≠ 16 by omega]
  · rw [if_neg hs]
    have hs0 : X.2.2.1 = 0 := by
      rcases w6 with q | q
      · exact q
      · exact absurd (h3.trans q) hs
    obtain ⟨a1, a2⟩ := aS_255 w4 w5
    have hp2 : pw X.2.2.1 (σ 41) (unp X.1 (abS (σ 42) (on k)) 8) (σ 43) = 255 := by unfold pw; rw [if_pos hs0]
    refine ⟨⟨hu, ?_, h3, h4, h5, ?_⟩, fun j a b => by simp [s40_over1, px_up, b], fun j hj => by simp [s40_over1, px_up]⟩
    · show σ 40 13 = X.2.1 &&& aS (σ 45) (pw X.2.2.1 (σ 41) (unp X.1 (abS (σ 42) (on k)) 8) (σ 43))
      rw [hp2, a1, h2]
    · show σ 40 16 = X.2.2.2.2.2 + bc (X.2.1 &&& (aS (σ 45) (pw X.2.2.1 (σ 41) (unp X.1 (abS (σ 42) (on k)) 8) (σ 43)) ^^^ -1))
      rw [hp2, a2, h6, show bc 0 = 0 by decide]
      simp
/-- the steps keep what must be kept -/
theorem okX_stp {h u g n : Nat → Int32} {kn k : Nat} {X : TS} (hk : k < 8) (hok : okX h u g n X) (hr : rsn h u g n kn k X = 0) : okX h u g n (stp h u g n kn k X) := by
  obtain ⟨w1, w2, w3, w4, w5, w6, w7, w8, w9, w10, w11, w12⟩ := hok
  have case4 : okX h u g n (X.1, X.2.1 ||| on k, X.2.2.1, X.2.2.2.1, X.2.2.2.2.1 + 1, X.2.2.2.2.2) := by
    refine ⟨w1, w2, w3, w4, fun j a b => ?_, w6, w7, w8, w9, w10, w11, w12⟩
    rw [b_or, w5 j a b, on_bt k hk j b]; simp [show j ≠ k by omega]
  match kn with
  | 0 => exact case4
  | 1 =>
    have hr : wP X.2.2.1 h X.1 u k = 0 := hr
    unfold wP at hr
    have c1 : ¬ X.2.2.1 = 0 := fun q => by rw [if_pos q] at hr; exact absurd hr (by decide)
    rw [if_neg c1] at hr
    have c2 : ¬ X.1 k = h k := fun q => by rw [if_pos q] at hr; exact absurd hr (by decide)
    rw [if_neg c2] at hr
    have c3 : (u k &&& (dS h X.1 ^^^ -1)) = 0 := by
      by_cases q : (u k &&& (dS h X.1 ^^^ -1)) = 0
      · exact q
      · rw [if_neg q] at hr; exact absurd hr (by decide)
    obtain ⟨a, b, q1, q2, q3, q4, q5⟩ := w1 k hk
    have hab : b < a := by
      rcases Nat.lt_or_ge b a with q | q
      · exact q
      · exact absurd (by rw [q1, q4, show a = b by omega]) c2
    have hup : upd X.1 k (X.1 k + 1) k = nI (b + 1) := by rw [upd_at, q4]; exact nI_1 b
    -- done parts stay done
    have hmono : ∀ i, i < 32 → bt (dS h X.1) i = true → bt (dS h (upd X.1 k (X.1 k + 1))) i = true := fun i hi hx => by
      rw [bt_dS hi] at hx ⊢
      simp only [Bool.and_eq_true, decide_eq_true_eq] at hx ⊢
      have : i ≠ k := fun e => c2 (by rw [← e]; exact hx.2)
      exact ⟨hx.1, by rw [upd_ne _ this]; exact hx.2⟩
    refine ⟨fun j hj => ?_, w2, w3, w4, w5, w6, fun j hj hne => ?_, w8, w9, w10, upd_zo w11 hk, w12⟩
    · by_cases e : j = k
      · subst e; exact ⟨a, b + 1, q1, q2, q3, hup, by omega⟩
      · obtain ⟨a', b', z1, z2, z3, z4, z5⟩ := w1 j hj
        exact ⟨a', b', z1, z2, z3, by show upd X.1 k (X.1 k + 1) j = _; rw [upd_ne _ e]; exact z4, z5⟩
    · have old : (u j &&& (dS h X.1 ^^^ -1)) = 0 := by
        by_cases e : j = k
        · rw [e]; exact c3
        · have hne : ¬ upd X.1 k (X.1 k + 1) j = 0 := hne
          rw [upd_ne _ e] at hne
          exact w7 j hj hne
      exact (sub_iff _ _).mpr fun i hi hx => hmono i hi ((sub_iff _ _).mp old i hi hx)
  | 2 =>
    refine ⟨fun j hj => ?_, w2, w3, w4, fun j a b => ?_, w6, fall_closed w2 w7 (fun _ _ _ => rfl) (fun _ _ _ => rfl), w8, w9, w10, unp_zo _ w11, w12⟩
    · obtain ⟨a, b, q1, q2, q3, q4, q5⟩ := w1 j hj
      show ∃ a b, h j = nI a ∧ 1 ≤ a ∧ a ≤ 9 ∧ unp X.1 (abS u (on k)) 8 j = nI b ∧ b ≤ a
      rw [unp8 _ _ hj]
      by_cases e : bt (abS u (on k)) j = true
      · rw [if_pos e]; exact ⟨a, 0, q1, q2, q3, rfl, by omega⟩
      · rw [if_neg e]; exact ⟨a, b, q1, q2, q3, q4, q5⟩
    · show bt (X.2.1 &&& _) j = false
      rw [b_and, w5 j a b]; rfl
  | 3 =>
    refine ⟨w1, w2, w3, w4, w5, ?_, w7, w8, w9, w10, w11, w12⟩
    show (if X.2.2.1 = 0 then (1 : Int32) else 0) = 0 ∨ (if X.2.2.1 = 0 then (1 : Int32) else 0) = 1
    split <;> simp
  | m + 4 => exact case4
theorem rsn_M {σ : px_Sg} {X : TS} (h : rM σ X) {k : Nat} (hk : k < 8) : wP (σ 40 14) (σ 41) (σ 49) (σ 42) k = rsn (σ 41) (σ 42) (σ 43) (σ 45) 1 k X ∧ wO (σ 49) k = rsn (σ 41) (σ 42) (σ 43) (σ 45) 2 k X ∧ wM (σ 40 13) (pw (σ 40 14) (σ 41) (σ 49) (σ 43)) (σ 45) k = rsn (σ 41) (σ 42) (σ 43) (σ 45) 4 k X := by
  obtain ⟨h1, h2, h3, h4, h5, h6⟩ := h
  refine ⟨?_, ?_, ?_⟩
  · rw [h3]; exact wP_congr h1 hk
  · show wO (σ 49) k = wO X.1 k
    unfold wO; rw [h1 k hk]
  · rw [h2, h3, pw_congr h1]; rfl
