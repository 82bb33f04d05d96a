section OPS12
variable {L : Nat} {xs : Nat → Int32} {σ : px_Sg}
theorem bt_nI {m i : Nat} (hi : i < 32) : bt (nI m) i = m.testBit i := by
  show (Int32.ofNat m).toBitVec.getLsbD i = _
  rw [show (Int32.ofNat m).toBitVec = BitVec.ofNat 32 m from rfl, BitVec.getLsbD_ofNat]
  simp [hi]
theorem lo8_mk (p : Nat → Bool) : lo 8 (mk p 8) := fun j h1 h2 => by
  rw [bt_mk p 8 (by omega) j h2, decide_eq_false (by omega)]; rfl
theorem Sm.up (σ : px_Sg) {k : Nat} (h : k = 39 ∨ (49 ≤ k ∧ k ≤ 53)) (f : Nat → Int32) : Sm σ (px_up σ k f) :=
  ⟨fun j hj => pu_o σ (by omega) f, by rw [pu_o σ (by omega)], by rw [pu_o σ (by omega)], by rw [pu_o σ (by omega)], by rw [pu_o σ (by omega)], by rw [pu_o σ (by omega)], by rw [pu_o σ (by omega)]⟩
/-! no order count passes its bound -/
def cn (i k s p : Nat) : Nat := if s.testBit p = true ∧ (s - 2 ^ p < i ∨ (s - 2 ^ p = i ∧ p < k)) then 1 else 0
theorem cn_le {i k i' k' s p : Nat} (h : (s - 2 ^ p < i ∨ (s - 2 ^ p = i ∧ p < k)) → (s - 2 ^ p < i' ∨ (s - 2 ^ p = i' ∧ p < k'))) : cn i k s p ≤ cn i' k' s p := by
  unfold cn
  by_cases a : s.testBit p = true ∧ (s - 2 ^ p < i ∨ (s - 2 ^ p = i ∧ p < k))
  · rw [if_pos a, if_pos ⟨a.1, h a.2⟩]; exact Nat.le_refl _
  · rw [if_neg a]; exact Nat.zero_le _
theorem cn_1 (i k s p : Nat) : cn i k s p ≤ 1 := by unfold cn; split <;> omega
def cnt (i k s : Nat) : Nat := cn i k s 0 + cn i k s 1 + cn i k s 2 + cn i k s 3 + cn i k s 4 + cn i k s 5 + cn i k s 6 + cn i k s 7
def pcN (s : Nat) : Nat := (s.testBit 0).toNat + (s.testBit 1).toNat + (s.testBit 2).toNat + (s.testBit 3).toNat + (s.testBit 4).toNat + (s.testBit 5).toNat + (s.testBit 6).toNat + (s.testBit 7).toNat
def BB (i k s : Nat) : Nat := 1 + cnt i k s * 9 ^ (pcN s - 1)
theorem BB_tab : ∀ i, i < 256 → ∀ k, k < 8 → i.testBit k = false → BB i k (i ||| 2 ^ k) + BB i k i ≤ BB i (k + 1) (i ||| 2 ^ k) := by decide +kernel
theorem cnt_le {i k i' k' s : Nat} (h : ∀ p, p < 8 → cn i k s p ≤ cn i' k' s p) : cnt i k s ≤ cnt i' k' s := by
  have h0 := h 0 (by omega)
  have h1 := h 1 (by omega)
  have h2 := h 2 (by omega)
  have h3 := h 3 (by omega)
  have h4 := h 4 (by omega)
  have h5 := h 5 (by omega)
  have h6 := h 6 (by omega)
  have h7 := h 7 (by omega)
  unfold cnt
  omega
theorem BB_le {i k i' k' s : Nat} (h : ∀ p, p < 8 → cn i k s p ≤ cn i' k' s p) : BB i k s ≤ BB i' k' s := Nat.add_le_add_left (Nat.mul_le_mul_right _ (cnt_le h)) 1
theorem BB_le1 (i k s : Nat) : BB i k s ≤ BB i (k + 1) s := BB_le fun p hp => cn_le (by omega)
theorem BB_le2 (i s : Nat) : BB i 8 s ≤ BB (i + 1) 0 s := BB_le fun p hp => cn_le (by omega)
theorem tn_1 (b : Bool) : b.toNat ≤ 1 := by cases b <;> decide
theorem BB_lt (i k s : Nat) : BB i k s < 2147483648 := by
  have h1 : cnt i k s ≤ 8 := by
    have h0 := cn_1 i k s 0
    have h1 := cn_1 i k s 1
    have h2 := cn_1 i k s 2
    have h3 := cn_1 i k s 3
    have h4 := cn_1 i k s 4
    have h5 := cn_1 i k s 5
    have h6 := cn_1 i k s 6
    have h7 := cn_1 i k s 7
    unfold cnt
    omega
  have h2 : pcN s ≤ 8 := by
    have h0 := tn_1 (s.testBit 0)
    have h1 := tn_1 (s.testBit 1)
    have h2 := tn_1 (s.testBit 2)
    have h3 := tn_1 (s.testBit 3)
    have h4 := tn_1 (s.testBit 4)
    have h5 := tn_1 (s.testBit 5)
    have h6 := tn_1 (s.testBit 6)
    have h7 := tn_1 (s.testBit 7)
    unfold pcN
    omega
  have h3 : 9 ^ (pcN s - 1) ≤ 9 ^ 7 := Nat.pow_le_pow_right (by omega) (by omega)
  have h4 : cnt i k s * 9 ^ (pcN s - 1) ≤ 8 * 9 ^ 7 := Nat.mul_le_mul h1 h3
  have h5 : (8 : Nat) * 9 ^ 7 = 38263752 := by decide
  unfold BB
  omega
def oInv (f f' : Nat → Int32) (i k : Nat) : Prop := ∀ s, s < 256 → f' s = f s ∧ ∃ v, f s = nI v ∧ v ≤ BB i k s
theorem oIn_inv {u : Nat → Int32} {i : Nat} (hi : i < 256) {f f' : Nat → Int32} (h0 : oInv f f' i 0) : ∀ k, k ≤ 8 → oInv (oIn oT u i f k) (oIn oR u i f' k) i k
  | 0, _ => h0
  | k + 1, hk => by
    have ih := oIn_inv (u := u) hi h0 k (by omega)
    have hle : oInv (oIn oT u i f k) (oIn oR u i f' k) i (k + 1) := fun s hs => by
      obtain ⟨a, v, b, c⟩ := ih s hs
      exact ⟨a, v, b, Nat.le_trans c (BB_le1 i k s)⟩
    cases hc : cf u (cI i) k with
    | false => rw [oIn_f (by simp [hc]), oIn_f (by simp [hc])]; exact hle
    | true =>
      have ht : i.testBit k = false := by
        unfold cf at hc
        simp only [Bool.and_eq_true, Bool.not_eq_true'] at hc
        rw [← bt_nI (by omega), ← cI_n, ← hb_bt (by omega)]; exact hc.1
      have hlt := or_lt hi (show k < 8 by omega)
      obtain ⟨e1, v, e2, e3⟩ := ih i hi
      obtain ⟨g1, w, g2, g3⟩ := ih (i ||| 2 ^ k) hlt
      have tab := BB_tab i hi k (by omega) ht
      have hb := BB_lt i k i
      rw [oIn_t (c := oT) (by simp [oT, hc])]
      intro s hs
      by_cases hz : oIn oR u i f' k i ≤ 0
      · have hv : v = 0 := by
          rcases Nat.eq_zero_or_pos v with q | q
          · exact q
          · rw [e1, e2] at hz
            exact absurd hz (nI_nle q (by omega))
        rw [oIn_f (c := oR) (by simp [oR, hz])]
        by_cases e : s = i ||| 2 ^ k
        · subst e
          rw [upd_at]
          refine ⟨?_, w + v, by rw [g2, e2, nI_add], by omega⟩
          rw [g1, e2, hv, nI_0]; simp
        · rw [upd_ne _ e]; exact hle s hs
      · rw [oIn_t (c := oR) (by simp [oR, hz, hc])]
        by_cases e : s = i ||| 2 ^ k
        · subst e
          rw [upd_at, upd_at]
          exact ⟨by rw [g1, e1], w + v, by rw [g2, e2, nI_add], by omega⟩
        · rw [upd_ne _ e, upd_ne _ e]; exact hle s hs
theorem oOut_inv {u : Nat → Int32} {f f' : Nat → Int32} (h0 : oInv f f' 0 0) : ∀ i, i ≤ 256 → oInv (oOut oT u f i) (oOut oR u f' i) i 0
  | 0, _ => h0
  | i + 1, hi => fun s hs => by
    obtain ⟨a, v, b, c⟩ := oIn_inv (u := u) (show i < 256 by omega) (oOut_inv h0 i (by omega)) 8 (Nat.le_refl _) s hs
    exact ⟨a, v, b, Nat.le_trans c (BB_le2 i s)⟩
theorem hb_255 : ∀ k, k < 8 → hb (nI 255) k = true := by decide +kernel
theorem oIn_255 {c : Int32 → Bool} {u f : Nat → Int32} : ∀ k, k ≤ 8 → oIn c u 255 f k = f
  | 0, _ => rfl
  | k + 1, hk => by
    rw [oIn_f (by unfold cf; rw [cI_n, hb_255 k (by omega)]; simp)]
    exact oIn_255 k (by omega)
theorem o_init {f f' : Nat → Int32} {d : Nat} (hd : d < 256) : oInv (upd (cpn (fun _ => 0) f 256) d 1) (cpn (o1 (nI d)) f' 256) 0 0 := fun s hs => by
  rw [cpn_lt _ _ hs]
  by_cases e : s = d
  · subst e
    rw [upd_at, o1, if_pos (cI_n s)]
    exact ⟨rfl, 1, rfl, by unfold BB; omega⟩
  · rw [upd_ne _ e, cpn_lt _ _ hs, o1, if_neg (by rw [cI_n]; exact fun z => e ((nI_eq (by omega) (by omega)).mp z))]
    exact ⟨rfl, 0, rfl, by unfold BB; omega⟩
theorem o_orders (hR : Rel σ) : Op L xs mX2_orders mX3_orders [] σ := by
  obtain ⟨e1, e2, e3, e4, e5, e6⟩ := hR.2.2.1
  obtain ⟨d, hd8, hd⟩ := lo8_ex (lo8_mk (fun k => decide (σ 5 k = σ 2 k)))
  have hd : dS (σ 2) (σ 5) = nI d := hd
  have hX := tX_orders (L := L) (xs := xs) σ hd hd8
  revert hX
  generalize hF : oOut oT (σ 3) (upd (cpn (fun _ => 0) (σ 39) 256) d 1) 255 = F
  intro hX
  have eD : dS ((s_asNow (px_up σ 39 F)) 41) ((s_asNow (px_up σ 39 F)) 49) = nI d := by
    rw [asN_49, asN_o _ (k := 41) (by decide) (by decide), dS_asN, pu_o _ (by decide), pu_o _ (by decide), e1, e4]; exact hd
  have e42 : (s_asNow (px_up σ 39 F)) 42 = σ 3 := by rw [asN_o _ (by decide) (by decide), pu_o _ (by decide), e2]
  refine Op.of hX (oM_0 _ (oM_run _ _ ⟨rfl, rfl⟩)) ?_ (hR.sm (((Sm.up σ (by omega) F).tr (asN_Sm _)).tr (Sm.up _ (by omega) _)))
  rw [eD, e42]
  have := oOut_inv (u := σ 3) (o_init (f := σ 39) (f' := (s_asNow (px_up σ 39 F)) 50) hd8) 256 (Nat.le_refl _) 255 (by omega)
  rw [this.1]
  show Value.int (oIn oT (σ 3) 255 (oOut oT (σ 3) (upd (cpn (fun _ => 0) (σ 39) 256) d 1) 255) 8 255) = _
  rw [oIn_255 8 (Nat.le_refl _), hF]
end OPS12
