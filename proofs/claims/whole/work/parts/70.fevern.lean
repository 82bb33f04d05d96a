section OPS16
/-! the least part not done -/
def lkN (P : Nat → Bool) : Nat → Nat → Nat
  | 0, k => k
  | d + 1, k => if P k = true then k else lkN P d (k + 1)
theorem lkN_sp (P : Nat → Bool) : ∀ d k, (lkN P d k = k + d ∧ ∀ i, k ≤ i → i < k + d → P i = false) ∨ (k ≤ lkN P d k ∧ lkN P d k < k + d ∧ P (lkN P d k) = true ∧ ∀ i, k ≤ i → i < lkN P d k → P i = false)
  | 0, k => Or.inl ⟨rfl, fun i h1 h2 => absurd h2 (by omega)⟩
  | d + 1, k => by
    rw [lkN]
    by_cases h : P k = true
    · rw [if_pos h]
      exact Or.inr ⟨Nat.le_refl _, by omega, h, fun i h1 h2 => absurd h2 (by omega)⟩
    · rw [if_neg h]
      have h : P k = false := by cases hx : P k with
        | false => rfl
        | true => exact absurd hx h
      rcases lkN_sp P d (k + 1) with ⟨a, b⟩ | ⟨a, b, c, e⟩
      · refine Or.inl ⟨by omega, fun i h1 h2 => ?_⟩
        by_cases q : i = k
        · subst q; exact h
        · exact b i (by omega) (by omega)
      · refine Or.inr ⟨by omega, by omega, c, fun i h1 h2 => ?_⟩
        by_cases q : i = k
        · subst q; exact h
        · exact e i (by omega) h2
theorem lkN_congr {P P' : Nat → Bool} : ∀ d k, (∀ i, k ≤ i → i < k + d → P i = P' i) → lkN P d k = lkN P' d k
  | 0, _, _ => rfl
  | d + 1, k, h => by rw [lkN, lkN, h k (by omega) (by omega), lkN_congr d (k + 1) (fun i h1 h2 => h i (by omega) (by omega))]
def nd (h p : Nat → Int32) : Nat := lkN (fun k => !decide (p k = h k)) 8 0
theorem nd_sp (h p : Nat → Int32) : nd h p ≤ 8 ∧ (∀ i, i < nd h p → p i = h i) ∧ (nd h p < 8 → ¬ p (nd h p) = h (nd h p)) := by
  rcases lkN_sp (fun k => !decide (p k = h k)) 8 0 with ⟨a, b⟩ | ⟨a, b, c, e⟩
  · have a : nd h p = 8 := a
    refine ⟨by omega, fun i hi => ?_, fun z => absurd z (by omega)⟩
    have := b i (by omega) (by omega)
    simpa using this
  · have b : nd h p < 8 := by have : nd h p < 0 + 8 := b; omega
    refine ⟨by omega, fun i hi => ?_, fun _ => ?_⟩
    · have := e i (by omega) hi
      simpa using this
    · have c : (!decide (p (nd h p) = h (nd h p))) = true := c
      simpa using c
theorem nd_congr {h p p' : Nat → Int32} (e : ∀ k, k < 8 → p k = p' k) : nd h p = nd h p' := lkN_congr 8 0 (fun i _ h2 => by rw [e i (by omega)])
def pl1 (h p : Nat → Int32) : Nat → Int32 := if nd h p < 8 then upd p (nd h p) (p (nd h p) + 1) else p
def plP (h p : Nat → Int32) : Nat → Nat → Int32
  | 0 => p
  | z + 1 => pl1 h (plP h p z)
def plH (h p : Nat → Int32) : Nat → Nat
  | 0 => 0
  | z + 1 => plH h p z + if nd h (plP h p z) < 8 then 1 else 0
theorem plH_le (h p : Nat → Int32) : ∀ z, plH h p z ≤ z
  | 0 => Nat.le_refl _
  | z + 1 => by have := plH_le h p z; rw [plH]; split <;> omega
theorem plS_v (σ : px_Sg) : ∀ d, d ≤ 8 → plS σ d = if lkN (fun k => !decide (σ 14 k = σ 11 k)) d (8 - d) < 8 then s10_paint σ (lkN (fun k => !decide (σ 14 k = σ 11 k)) d (8 - d)) else σ
  | 0, _ => by rw [lkN, if_neg (by omega)]; rfl
  | d + 1, h => by
    rw [plS, lkN, show 8 - (d + 1) + 1 = 8 - d by omega]
    by_cases c : σ 14 (8 - (d + 1)) = σ 11 (8 - (d + 1))
    · rw [if_pos c, plS_v σ d (by omega)]
      simp only [c, decide_true, Bool.not_true, Bool.false_eq_true, if_false]
    · rw [if_neg c]
      simp only [c, decide_false, Bool.not_false, if_true]
      rw [if_pos (by omega)]
theorem plS_8 (σ : px_Sg) : plS σ 8 = if nd (σ 11) (σ 14) < 8 then s10_paint σ (nd (σ 11) (σ 14)) else σ := plS_v σ 8 (Nat.le_refl _)
theorem Sm.upA (σ : px_Sg) {k : Nat} (h : (10 ≤ k ∧ k ≤ 18) ∨ k = 39 ∨ (49 ≤ k ∧ k ≤ 53)) (f : Nat → Int32) : Sm σ (px_up σ k f) :=
  ⟨fun j hj => pu_o σ (by omega) f, by rw [pu_o σ (by omega)], by rw [pu_o σ (by omega)], by rw [pu_o σ (by omega)], by rw [pu_o σ (by omega)], by rw [pu_o σ (by omega)], by rw [pu_o σ (by omega)]⟩
theorem Sm.u40 (σ : px_Sg) {j : Nat} (h : 11 ≤ j) (x : Int32) {f : Nat → Int32} (hf : f = σ 40) : Sm σ (px_up σ 40 (upd f j x)) := by
  subst hf
  refine ⟨fun k hk => pu_o σ (by omega) _, by rw [pu_o σ (by omega)], by rw [pu_o σ (by omega)], ?_, ?_, ?_, ?_⟩ <;> rw [pu_s, upd_ne _ (by omega)]
theorem Sm.copy (σ : px_Sg) : Sm σ (s_copy_10_1 σ) := by
  unfold s_copy_10_1
  repeat (first | exact Sm.rf _ | refine Sm.tr ?_ (Sm.upA _ (by omega) _))
theorem Sm.p10 (σ : px_Sg) (k : Nat) : Sm σ (s10_paint σ k) := by
  unfold s10_paint
  exact Sm.tr (Sm.upA _ (by omega) _) (Sm.upA _ (by omega) _)
theorem Sm.plS (σ : px_Sg) : Sm σ (plS σ 8) := by
  rw [plS_8]
  split
  · exact Sm.p10 _ _
  · exact Sm.rf _
theorem Sm.plI (σ : px_Sg) : ∀ p, Sm σ (plI σ p)
  | 0 => Sm.rf _
  | p + 1 => (Sm.plI σ p).tr (Sm.plS _)
theorem p10_14 (σ : px_Sg) (k : Nat) : s10_paint σ k 14 = upd (σ 14) k (σ 14 k + 1) := by simp [s10_paint, px_up]
theorem p10_c (σ : px_Sg) (k : Nat) : s10_paint σ k 10 12 = σ 10 12 + 1 := by simp [s10_paint, px_up, upd]
theorem p10_o (σ : px_Sg) (k : Nat) {j : Nat} (h : j = 11 ∨ j = 13 ∨ j = 15) : s10_paint σ k j = σ j := by
  unfold s10_paint
  rw [pu_o _ (by omega), pu_o _ (by omega)]
theorem plI_v {σ : px_Sg} (h0 : σ 10 12 = 0) : ∀ p, (plI σ p) 11 = σ 11 ∧ (plI σ p) 13 = σ 13 ∧ (plI σ p) 15 = σ 15 ∧ (plI σ p) 14 = plP (σ 11) (σ 14) p ∧ (plI σ p) 10 12 = nI (plH (σ 11) (σ 14) p)
  | 0 => ⟨rfl, rfl, rfl, rfl, h0⟩
  | p + 1 => by
    obtain ⟨a, b, c, d, e⟩ := plI_v h0 p
    rw [plI, plS_8, a, d, plP, plH, pl1]
    by_cases q : nd (σ 11) (plP (σ 11) (σ 14) p) < 8
    · rw [if_pos q, if_pos q, if_pos q, p10_o _ _ (by omega), p10_o _ _ (by omega), p10_o _ _ (by omega), p10_14, p10_c, a, b, c, d, e]
      exact ⟨rfl, rfl, rfl, rfl, nI_1 _⟩
    · rw [if_neg q, if_neg q, if_neg q]
      exact ⟨a, b, c, d, e⟩
/-! sums -/
def sN (f : Nat → Nat) : Nat → Nat
  | 0 => 0
  | n + 1 => sN f n + f n
theorem sN_add (f g : Nat → Nat) : ∀ n, sN (fun p => f p + g p) n = sN f n + sN g n
  | 0 => rfl
  | n + 1 => by have := sN_add f g n; rw [sN, sN, sN, this]; omega
theorem sN_out {z : Nat} {x : Nat → Nat} : ∀ n, n ≤ z → sN (fun p => if z = p then x p else 0) n = 0
  | 0, _ => rfl
  | n + 1, h => by rw [sN, sN_out n (by omega)]; show 0 + (if z = n then x n else 0) = 0; rw [if_neg (by omega)]
theorem sN_one {z : Nat} {x : Nat → Nat} : ∀ n, z < n → sN (fun p => if z = p then x p else 0) n = x z
  | 0, h => absurd h (by omega)
  | n + 1, h => by
    rw [sN]
    by_cases e : z = n
    · subst e
      rw [sN_out z (Nat.le_refl _)]
      show 0 + (if z = z then x z else 0) = _
      rw [if_pos rfl, Nat.zero_add]
    · rw [sN_one n (by omega)]
      show x z + (if z = n then x n else 0) = _
      rw [if_neg e, Nat.add_zero]
theorem sN_congr {f g : Nat → Nat} : ∀ n, (∀ i, i < n → f i = g i) → sN f n = sN g n
  | 0, _ => rfl
  | n + 1, h => by rw [sN, sN, sN_congr n (fun i hi => h i (by omega)), h n (by omega)]
theorem sN_le {f : Nat → Nat} {b : Nat} : ∀ n, (∀ i, i < n → f i ≤ b) → sN f n ≤ n * b
  | 0, _ => by simp [sN]
  | n + 1, h => by
    have h1 := sN_le n (fun i hi => h i (by omega))
    have h2 := h n (by omega)
    rw [sN, Nat.succ_mul]; omega
theorem sN_swap {o z V : Nat → Nat} {M : Nat} : ∀ R, (∀ r, r < R → z r < M) → sN (fun p => sN (fun r => if z r = p then o r else 0) R * V p) M = sN (fun r => o r * V (z r)) R
  | 0, _ => by
    show sN (fun p => 0 * V p) M = 0
    have : ∀ n, sN (fun p => 0 * V p) n = 0 := fun n => by
      induction n with
      | zero => rfl
      | succ n ih => rw [sN, ih]; simp
    exact this M
  | R + 1, h => by
    have ih := sN_swap (o := o) (z := z) (V := V) (M := M) R (fun r hr => h r (by omega))
    show sN (fun p => (sN (fun r => if z r = p then o r else 0) R + (if z R = p then o R else 0)) * V p) M = sN (fun r => o r * V (z r)) R + o R * V (z R)
    rw [← ih, ← sN_one (x := fun p => o R * V p) M (h R (by omega)), ← sN_add]
    refine sN_congr M (fun p _ => ?_)
    show _ = _ + (if z R = p then o R * V p else 0)
    rw [Nat.add_mul]
    by_cases e : z R = p
    · rw [if_pos e, if_pos e]
    · rw [if_neg e, if_neg e, Nat.zero_mul]
/-! the rows of lost hours -/
def owN (r t : Nat) : Nat → Nat
  | 0 => 1
  | i + 1 => owN r t i * (if r.testBit i then t else 10 - t)
def zrN (r : Nat) : Nat → Nat
  | 0 => 0
  | i + 1 => zrN r i + (if r.testBit i then 0 else 1)
theorem zrN_le (r : Nat) : ∀ i, zrN r i ≤ i
  | 0 => Nat.le_refl _
  | i + 1 => by have := zrN_le r i; rw [zrN]; split <;> omega
theorem owN_le {r t : Nat} (ht : t ≤ 10) : ∀ i, owN r t i ≤ 10 ^ i
  | 0 => Nat.le_refl _
  | i + 1 => by
    rw [owN, Nat.pow_succ]
    exact Nat.mul_le_mul (owN_le ht i) (by split <;> omega)
def wN (m t p : Nat) : Nat := sN (fun r => if zrN r m = p then owN r t m else 0) (2 ^ m)
theorem wN_tab : ∀ m, m < 9 → ∀ t, t < 11 → ∀ p, p < m + 1 → wL m t p = lN (wN m t p) := by decide +kernel
def owL (r t : Nat) : Nat → Int64
  | 0 => 1
  | i + 1 => owL r t i * (if hb (cI r) i then (cI t).toInt64 else (10 - cI t).toInt64)
theorem lN_lit1 : (1 : Int64) = lN 1 := rfl
theorem lN_lit10 : (10 : Int64) = lN 10 := rfl
theorem cI_l {t : Nat} (h : t ≤ 1000) : (cI t).toInt64 = lN t := by rw [cI_n]; exact nI_l (by omega)
theorem cI_l10 {t : Nat} (h : t ≤ 10) : (10 - cI t).toInt64 = lN (10 - t) := by
  rw [cI_n, show (10 : Int32) - nI t = nI (10 - t) from pk_sub (a := 10) h]; exact nI_l (by omega)
theorem owL_v {r t : Nat} (ht : t ≤ 10) : ∀ i, i ≤ 8 → owL r t i = lN (owN r t i)
  | 0, _ => rfl
  | i + 1, hi => by
    rw [owL, owN, owL_v ht i (by omega), hb_tb (by omega), cI_l (by omega), cI_l10 ht, ← lN_mul]
    cases r.testBit i <;> simp
theorem pwL_v (m : Nat) : pwL 10 m = lN (10 ^ m) := by
  induction m with
  | zero => rfl
  | succ m ih => rw [pwL, ih, Nat.pow_succ, ← lN_mul]; rfl
theorem lowL_v (m : Nat) : lowL m = lN (10 ^ m) := by
  induction m with
  | zero => rfl
  | succ m ih => rw [lowL, ih, Nat.pow_succ, ← lN_mul]; rfl
/-- the class's sum: v p is what p hours that are not lost give -/
def csN (m t : Nat) (V : Nat → Nat) : Nat := sN (fun p => wN m t p * V p) (m + 1)
def rsN (m t : Nat) (V : Nat → Nat) : Nat := sN (fun r => owN r t m * V (zrN r m)) (2 ^ m)
theorem cs_rs (m t : Nat) (V : Nat → Nat) : csN m t V = rsN m t V := sN_swap (2 ^ m) (fun r _ => by have := zrN_le r m; omega)
theorem rs_lt {m t : Nat} {V : Nat → Nat} (hm : m ≤ 8) (ht : t ≤ 10) (hV : ∀ z, z ≤ m → V z ≤ 8) : rsN m t V < 9223372036854775808 := by
  have h1 : ∀ r, r < 2 ^ m → owN r t m * V (zrN r m) ≤ 100000000 * 8 := fun r _ => Nat.mul_le_mul (Nat.le_trans (owN_le ht m) (Nat.le_trans (Nat.pow_le_pow_right (by omega) hm) (by decide))) (hV _ (zrN_le r m))
  have h2 := sN_le (2 ^ m) h1
  have h3 := p2_256 hm
  have h4 : 2 ^ m * (100000000 * 8) ≤ 256 * (100000000 * 8) := Nat.mul_le_mul_right _ h3
  unfold rsN
  omega
theorem fcL_v {σ : px_Sg} {a m t : Nat} (hm : m ≤ 8) (ht : t ≤ 10) {V : Nat → Nat} (hV : ∀ p, p ≤ m → V p = if gB ((plI σ p) 15) ((plI σ p) 13) (dS ((plI σ p) 11) ((plI σ p) 14)) a = true then 1 else 0) : ∀ p, p ≤ m + 1 → fcL σ a m t p = lN (sN (fun p => wN m t p * V p) p)
  | 0, _ => rfl
  | p + 1, hp => by
    rw [fcL, sN, fcL_v hm ht hV p (by omega), hV p (by omega), wN_tab m (by omega) t (by omega) p (by omega), lN_add]
    by_cases q : gB ((plI σ p) 15) ((plI σ p) 13) (dS ((plI σ p) 11) ((plI σ p) 14)) a = true
    · rw [if_pos q, if_pos q, Nat.mul_one]
    · rw [if_neg q, if_neg q, Nat.mul_zero, Nat.add_zero]
theorem fhL_v {σ : px_Sg} {m t : Nat} (hm : m ≤ 8) (ht : t ≤ 10) {V : Nat → Nat} (hV : ∀ p, p ≤ m → (plI σ p) 10 12 = nI (V p) ∧ V p ≤ 8) : ∀ p, p ≤ m + 1 → fhL σ m t p = lN (sN (fun p => wN m t p * V p) p)
  | 0, _ => rfl
  | p + 1, hp => by
    obtain ⟨h1, h2⟩ := hV p (by omega)
    rw [fhL, sN, fhL_v hm ht hV p (by omega), h1, nI_l (by omega), wN_tab m (by omega) t (by omega) p (by omega), lN_mul, lN_add]
end OPS16
