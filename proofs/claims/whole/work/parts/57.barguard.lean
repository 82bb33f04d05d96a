section OPS9
variable {L : Nat} {xs : Nat → Int32} {σ : px_Sg}
def guQ (g n : Nat → Int32) (a : Nat) (s : Int32) : Bool := decide ((s &&& n a) = 0) && guP g n a s
def pc8 (s : Int32) : Int32 := pcn s 8
theorem tM_guard (σ : px_Sg) {a : Nat} (ha : a < 8) (q : Int32) (hv : i2 q = true) : px_E L xs mX3_guard [.ref 40, .int (cI a), .int q] σ (some (.int (if bst pc8 (guQ (σ 43) (σ 45) a) 256 < 0 then bst pc8 (guQ (σ 43) (σ 45) a) 256 else if q = 1 then bst pc8 (guQ (σ 43) (σ 45) a) 256 else pcn (bst pc8 (guQ (σ 43) (σ 45) a) 256) 8))) σ := by
  refine gm_0 σ ha q hv ?_
  refine px_W.loop 256 (fun i => ((27, [some (.ref 40), some (.int (cI a)), some (.int q), some (.int (bst pc8 (guQ (σ 43) (σ 45) a) i)), some (.int (cI i)), none], []), (sh0, σ))) (fun _ => True) trivial (fun i hi _ k => ?_) (fun _ => ?_)
  · refine gm_turn σ ha q _ hi ?_
    have k := k trivial
    simp only at k
    rw [bst_s] at k
    rw [bst_lt _ _ (by omega)]
    refine px_W.to ?_ k
    have hB : ∀ a b c : Bool, (a && b && c) = (a && c && b) := by decide
    rw [hB]
    rfl
  · exact gm_end σ ha q _ ⟨rfl, rfl⟩
theorem and_or_eq {x s : Int32} {k : Nat} (hk : k < 8) (h : bt x k = true) : x ||| (s &&& (on k ^^^ -1)) = x ||| s := by
  apply b_ext
  intro i hi
  rw [b_or, b_or, b_and, bt_not _ hi, on_bt k hk i hi]
  by_cases e : i = k
  · subst e; simp [h]
  · simp [e]
theorem gu_same (hR : Rel σ) {a : Nat} (ha : a < 8) : bst pc8 (guQ (σ 43) (σ 45) a) 256 = bst bc (guP (σ 4) (σ 6) a) 256 := by
  obtain ⟨e1, e2, e3, e4, e5, e6⟩ := hR.2.2.1
  rw [e3, e5]
  refine bst_sub (fun k hk => ?_) (fun k hk h => ?_) (fun m hm hP hmin => ?_)
  · rw [cI_n]; exact bc_pcn k hk
  · unfold guQ at h; rw [Bool.and_eq_true] at h; exact h.2
  · unfold guQ
    rw [hP, Bool.and_true, decide_eq_true_eq]
    apply b_ext
    intro i hi
    rw [b_and, b_0]
    cases h1 : bt (cI m) i with
    | false => rfl
    | true =>
      cases h2 : bt (σ 6 a) i with
      | false => rfl
      | true =>
        exfalso
        have h8 : i < 8 := lo_bt (hR.1.2.2.2.1 a ha) hi h2
        rw [cI_n] at h1
        obtain ⟨j, hj, g1, g2⟩ := bc_less m hm i h8 h1
        rw [← cI_n, ← cI_n] at g1 g2
        refine hmin j hj ?_ g2
        unfold guP at hP ⊢
        rw [g1, and_or_eq h8 h2]
        exact hP
theorem few_v {P P' : Int32 → Bool} {q : Int32} (h : bst pc8 P' 256 = bst bc P 256) : (if bst pc8 P' 256 < 0 then bst pc8 P' 256 else if q = 1 then bst pc8 P' 256 else pcn (bst pc8 P' 256) 8) = (if bst bc P 256 = -6 then bst bc P 256 else if q = 1 then bst bc P 256 else bc (bst bc P 256)) := by
  rw [h]
  rcases bst_in bc P 256 with z | ⟨k, h1, h2, -⟩
  · rw [z]; simp only [if_true]; rw [if_pos (by decide)]
  · rw [h2, if_neg (cI_nlt (by omega)), if_neg (cI_n6 (by omega)), cI_n, bc_pcn k h1]
theorem o_guard (hR : Rel σ) (p q : Int32) : Op L xs mX2_guard mX3_guard [.int p, .int q] σ := by
  cases h : i8 p with
  | false => exact ⟨_, σ, σ, tX_guard0 σ p q h, uM_guard0 σ p q h, hR⟩
  | true =>
    obtain ⟨k, hk, rfl⟩ := i8_ex h
    cases hv : i2 q with
    | false => exact ⟨_, σ, σ, tX_guard1 σ hk q hv, uM_guard1 σ hk q hv, hR⟩
    | true => exact Op.of (tX_guard σ hk q hv (tX_fg σ hk)) (tM_guard σ hk q hv) (by rw [few_v (gu_same hR hk)]) hR
end OPS9
