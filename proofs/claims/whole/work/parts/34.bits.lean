/-! sets by their bits -/
theorem bt_not (y : Int32) {i : Nat} (hi : i < 32) : bt (y ^^^ -1) i = !bt y i := by rw [b_xor, b_m1 i hi]; simp
theorem sub_iff (x y : Int32) : (x &&& (y ^^^ -1)) = 0 ↔ ∀ i, i < 32 → bt x i = true → bt y i = true := by
  constructor
  · intro h i hi hx
    have h1 := congrArg (fun z => bt z i) h
    simp only [b_and, bt_not y hi, b_0, hx, Bool.true_and] at h1
    simpa using h1
  · intro h
    apply b_ext
    intro i hi
    rw [b_and, bt_not y hi, b_0]
    cases hx : bt x i with
    | false => rfl
    | true => rw [h i hi hx]; rfl
theorem and_ne (x y : Int32) : ¬ (x &&& y) = 0 ↔ ∃ i, i < 32 ∧ bt x i = true ∧ bt y i = true := by
  constructor
  · intro h
    apply Classical.byContradiction
    intro q
    apply h
    apply b_ext
    intro i hi
    rw [b_and, b_0]
    cases hx : bt x i with
    | false => rfl
    | true =>
      cases hy : bt y i with
      | false => rfl
      | true => exact absurd ⟨i, hi, hx, hy⟩ q
  · intro ⟨i, hi, hx, hy⟩ h
    have h1 := congrArg (fun z => bt z i) h
    simp [b_and, b_0, hx, hy] at h1
theorem lo_bt {k : Nat} {x : Int32} (h : lo k x) {i : Nat} (hi : i < 32) (hx : bt x i = true) : i < k := by
  rcases Nat.lt_or_ge i k with q | q
  · exact q
  · rw [h i q hi] at hx; cases hx
/-- all that stands on a set falls with it -/
theorem ab_mono {u : Nat → Int32} {s : Int32} {n i : Nat} (hi : i < 32) (hn : n < 8) (h : bt (ab u s n) i = true) : bt (ab u s (n + 1)) i = true := by
  rw [ab]
  split
  · exact h
  · rw [b_or, h]; rfl
theorem ab_step {u : Nat → Int32} {s : Int32} {n i : Nat} (hi : i < 32) (hn : n < 8) (hne : i ≠ n) : bt (ab u s (n + 1)) i = bt (ab u s n) i := by
  rw [ab]
  split
  · rfl
  · rw [b_or, on_bt n hn i hi]; simp [hne]
theorem ab_le {u : Nat → Int32} {s : Int32} {i : Nat} (hi : i < 32) : ∀ (d n : Nat), n + d ≤ 8 → bt (ab u s n) i = true → bt (ab u s (n + d)) i = true
  | 0, _, _, h => h
  | d + 1, n, hd, h => ab_mono (n := n + d) hi (by omega) (ab_le hi d n (by omega) h)
theorem ab_fix {u : Nat → Int32} {s : Int32} {i : Nat} (hi : i < 32) : ∀ (d n : Nat), n + d ≤ 8 → i < n → bt (ab u s (n + d)) i = bt (ab u s n) i
  | 0, _, _, _ => rfl
  | d + 1, n, hd, h => by
    have := ab_fix (u := u) (s := s) hi d n (by omega) h
    rw [← this]
    exact ab_step (n := n + d) hi (by omega) (by omega)
theorem abS_in {u : Nat → Int32} {s : Int32} {i : Nat} (hi : i < 32) (h : bt s i = true) : bt (abS u s) i = true := by
  have := ab_le (u := u) (s := s) hi 8 0 (by omega) h
  exact this
theorem abS_up {u : Nat → Int32} {s : Int32} {j i : Nat} (hj : j < 8) (hu : lo j (u j)) (hi : i < 32) (h1 : bt (u j) i = true) (h2 : bt (abS u s) i = true) : bt (abS u s) j = true := by
  have hij : i < j := lo_bt hu hi h1
  have h3 : bt (ab u s j) i = true := by
    have := ab_fix (u := u) (s := s) hi (8 - j) j (by omega) hij
    rw [show j + (8 - j) = 8 by omega] at this
    rw [← this]
    exact h2
  have h4 : bt (ab u s (j + 1)) j = true := by
    rw [ab, if_neg ((and_ne _ _).mpr ⟨i, hi, h1, h3⟩), b_or, on_bt j hj j (by omega)]
    simp
  have := ab_le (u := u) (s := s) (i := j) (by omega) (8 - (j + 1)) (j + 1) (by omega) h4
  rw [show j + 1 + (8 - (j + 1)) = 8 by omega] at this
  exact this
theorem unp_v (p : Nat → Int32) (s : Int32) : ∀ (n : Nat), n ≤ 8 → ∀ k, unp p s n k = if k < n ∧ bt s k = true then 0 else p k
  | 0, _, k => by simp [unp]
  | n + 1, hn, k => by
    have ih := unp_v p s n (by omega) k
    cases hs : hb s n with
    | true =>
      rw [unp_t hs]
      have hb2 : bt s n = true := by rw [← hb_bt (by omega)]; exact hs
      by_cases e : k = n
      · subst e; rw [upd_at]; simp [hb2]
      · rw [upd_ne _ e, ih]
        have : (k < n + 1 ∧ bt s k = true) ↔ (k < n ∧ bt s k = true) := by constructor <;> (intro q; exact ⟨by omega, q.2⟩)
        simp only [this]
    | false =>
      rw [unp_f hs, ih]
      have hb2 : bt s n = false := by rw [← hb_bt (by omega)]; exact hs
      by_cases e : k = n
      · subst e; simp [hb2]
      · have : (k < n + 1 ∧ bt s k = true) ↔ (k < n ∧ bt s k = true) := by constructor <;> (intro q; exact ⟨by omega, q.2⟩)
        simp only [this]
theorem unp8 (p : Nat → Int32) (s : Int32) {k : Nat} (hk : k < 8) : unp p s 8 k = if bt s k = true then 0 else p k := by
  rw [unp_v p s 8 (by omega) k]; simp [hk]
theorem unp_zo {p : Nat → Int32} (s : Int32) (h : zo 8 p) : zo 8 (unp p s 8) := fun k hk => by
  rw [unp_v p s 8 (by omega) k, if_neg (by omega)]
  exact h k hk
theorem bt_dS {h p : Nat → Int32} {i : Nat} (hi : i < 32) : bt (dS h p) i = (decide (i < 8) && decide (p i = h i)) := bt_mk _ 8 (by omega) i hi
/-- what stands stays closed when a set falls with all that stands on it, whatever becomes of the fallen -/
theorem fall_closed {h u p h' u' : Nat → Int32} {s : Int32} (hl : ∀ k, k < 8 → lo k (u k)) (hc : ∀ k, k < 8 → ¬ p k = 0 → (u k &&& (dS h p ^^^ -1)) = 0)
    (hh : ∀ k, k < 8 → bt (abS u s) k = false → h' k = h k) (hu : ∀ k, k < 8 → bt (abS u s) k = false → u' k = u k) :
    ∀ k, k < 8 → ¬ unp p (abS u s) 8 k = 0 → (u' k &&& (dS h' (unp p (abS u s) 8) ^^^ -1)) = 0 := by
  intro k hk hne
  rw [unp8 p _ hk] at hne
  have hb : bt (abS u s) k = false := by
    cases q : bt (abS u s) k with
    | false => rfl
    | true => rw [if_pos q] at hne; exact absurd rfl hne
  rw [if_neg (by rw [hb]; decide)] at hne
  rw [hu k hk hb]
  rw [sub_iff]
  intro i hi hx
  have hik : i < k := lo_bt (hl k hk) hi hx
  have h1 := (sub_iff _ _).mp (hc k hk hne) i hi hx
  rw [bt_dS hi] at h1 ⊢
  simp only [Bool.and_eq_true, decide_eq_true_eq] at h1 ⊢
  have hib : bt (abS u s) i = false := by
    cases q : bt (abS u s) i with
    | false => rfl
    | true => rw [abS_up hk (hl k hk) hi hx q] at hb; cases hb
  refine ⟨h1.1, ?_⟩
  rw [unp8 p _ h1.1, if_neg (by rw [hib]; decide), hh i h1.1 hib]
  exact h1.2
theorem lo_small : ∀ k, k < 8 → ∀ j, j < 2 ^ k → ∀ i, i < 32 → k ≤ i → bt (nI j) i = false := by decide +kernel
theorem lo_256 : ∀ j, j < 256 → ∀ i, i < 32 → 8 ≤ i → bt (nI j) i = false := by decide +kernel
theorem on_n : ∀ k, k < 8 → on k = nI (2 ^ k) := by decide +kernel
theorem p2_le : ∀ k, k < 8 → 2 ^ k ≤ 128 := by decide +kernel
theorem lo_under {k : Nat} {u : Int32} (hk : k < 8) (h1 : ¬ u < 0) (h2 : ¬ on k ≤ u) : lo k u := by
  obtain ⟨j, hj, rfl⟩ := nI_of h1
  rw [on_n k hk, nI_leI (by have := p2_le k hk; omega) hj] at h2
  exact fun i h3 h4 => lo_small k hk j (by omega) i h4 h3
theorem iS_ex {x : Int32} (h : iS x = true) : ∃ j, j < 256 ∧ x = nI j := by
  unfold iS at h
  simp only [Bool.and_eq_true, Bool.not_eq_true', decide_eq_false_iff_not] at h
  obtain ⟨j, hj, rfl⟩ := nI_of h.1
  have := h.2
  rw [show (255 : Int32) = nI 255 from rfl, nI_ltI (by omega) hj] at this
  exact ⟨j, by omega, rfl⟩
theorem lo_iS {x : Int32} (h : iS x = true) : lo 8 x := by
  obtain ⟨j, hj, rfl⟩ := iS_ex h
  exact fun i h3 h4 => lo_256 j hj i h4 h3
def pvB (k : Nat) (h u g : Int32) : Bool := (!decide (u < 0) && !decide (on k ≤ u)) && ((!decide (h < 1) && !decide (9 < h)) && iS g)
theorem pv_ok {k : Nat} {h u g : Int32} (a1 : ¬ u < 0) (a2 : ¬ on k ≤ u) (a3 : ¬ h < 1) (a4 : ¬ 9 < h) (a5 : ¬ bo (iS g) = 0) : pvB k h u g = true := by
  have := bo_n0.mp a5
  simp only [pvB, a1, a2, a3, a4, this, decide_false, Bool.not_false, Bool.and_self]
theorem pv {k : Nat} {h u g : Int32} (hv : pvB k h u g = true) : ¬ u < 0 ∧ ¬ on k ≤ u ∧ ¬ h < 1 ∧ ¬ 9 < h ∧ iS g = true := by
  unfold pvB at hv
  simp only [Bool.and_eq_true, Bool.not_eq_true', decide_eq_false_iff_not] at hv
  exact ⟨hv.1.1, hv.1.2, hv.2.1.1, hv.2.1.2, hv.2.2⟩
theorem on_pred : ∀ k, k < 8 → (on k - 1).toInt < 2147483647 ∧ on k - 1 + 1 = on k := by decide +kernel
theorem iB_on {k : Nat} (hk : k < 8) (u : Int32) : iB u 0 (on k - 1) = (!decide (u < 0) && !decide (on k ≤ u)) := by
  have h := lt_succ32 u (on k - 1) (on_pred k hk).1
  rw [(on_pred k hk).2] at h
  unfold iB
  simp only [h]
theorem lo_zero (k : Nat) : lo k 0 := fun j _ _ => b_0 j
theorem upd_zo {n k : Nat} {f : Nat → Int32} {x : Int32} (h : zo n f) (hk : k < n) : zo n (upd f k x) := fun j hj => by rw [upd_ne f (by omega)]; exact h j hj
