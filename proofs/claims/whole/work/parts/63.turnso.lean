section OPS13
variable {L : Nat} {xs : Nat → Int32} {σ : px_Sg} {Q : Option Value → px_H → Prop}
def rwP (u n g w : Nat → Int32) (a s k : Nat) : Bool := cf u (cI s) k && (gB n g (cI s ||| (1 <<< (cI k &&& 31))) a || decide (w (s ||| 2 ^ k) = 0))
def anP (P : Nat → Bool) : Nat → Bool
  | 0 => false
  | j + 1 => anP P j || P (7 - j)
def rwT (u n g w : Nat → Int32) (a : Nat) : Nat → Nat → Int32
  | 0 => w
  | j + 1 => upd (rwT u n g w a j) (255 - j) (bo (anP (rwP u n g (rwT u n g w a j) a (255 - j)) 8))
def rwF (u n g w : Nat → Int32) (a : Nat) (done : Int32) : Nat → Int32
  | 0 => -6
  | j + 1 => if cI (255 - j) = done then lwd (rwF u n g w a done j) (rwP u n g (rwT u n g w a j) a (255 - j)) 8 0 else rwF u n g w a done j
theorem cf_lt {u : Nat → Int32} {s k : Nat} (hk : k < 8) (h : cf u (cI s) k = true) : s < s ||| 2 ^ k := by
  have ht : s.testBit k = false := by
    unfold cf at h
    simp only [Bool.and_eq_true, Bool.not_eq_true'] at h
    rw [← bt_nI (by omega), ← cI_n, ← hb_bt (by omega)]; exact h.1
  rcases Nat.lt_or_ge s (s ||| 2 ^ k) with q | q
  · exact q
  · exfalso
    have e : s ||| 2 ^ k = s := Nat.le_antisymm q Nat.left_le_or
    have h2 : (s ||| 2 ^ k).testBit k = true := by rw [Nat.testBit_or, Nat.testBit_two_pow_self]; simp
    rw [e, ht] at h2; cases h2
theorem rwP_upd {u n g w : Nat → Int32} {a s k : Nat} (hk : k < 8) (x : Int32) : rwP u n g (upd w s x) a s k = rwP u n g w a s k := by
  unfold rwP
  cases h : cf u (cI s) k with
  | false => rfl
  | true => rw [upd_ne _ (by have := cf_lt hk h; omega)]
theorem tm_in (σ : px_Sg) {a : Nat} (ha : a < 8) (q done f : Int32) {s : Nat} (hs : s < 256) (P : Nat → Bool) (hP : P = rwP (σ 42) (σ 45) (σ 43) (σ 53) a s)
    (hc : px_W L xs mX3_turns (79, [some (.ref 40), some (.int (cI a)), some (.int q), some (.int done), some (.int (if cI s = done then lwd f P 8 0 else f)), some (.int (cI s)), some (.int (-1)), none, none, none], []) (sh0, px_up σ 53 (upd (σ 53) s (bo (anP P 8)))) Q) :
    px_W L xs mX3_turns (79, [some (.ref 40), some (.int (cI a)), some (.int q), some (.int done), some (.int f), some (.int (cI s)), some (.int 7), none, none, none], []) (sh0, px_up σ 53 (upd (σ 53) s 0)) Q := by
  refine px_W.to (f' := (79, [some (.ref 40), some (.int (cI a)), some (.int q), some (.int done), some (.int (if cI s = done then lwd f P 0 (8 - 0) else f)), some (.int (cI s)), some (.int (dI 7 0)), none, none, none], [])) (h' := (sh0, px_up σ 53 (upd (σ 53) s (bo (anP P 0))))) (by rw [lwd, ite_self]; rfl) ?_
  refine px_W.loop 8 (fun j => ((79, [some (.ref 40), some (.int (cI a)), some (.int q), some (.int done), some (.int (if cI s = done then lwd f P j (8 - j) else f)), some (.int (cI s)), some (.int (dI 7 j)), none, none, none], []), (sh0, px_up σ 53 (upd (σ 53) s (bo (anP P j)))))) (fun _ => True) trivial (fun j hj _ kk => ?_) (fun _ => ?_)
  · have kk := kk trivial
    simp only at kk
    refine px_W.to (f' := (79, [some (.ref 40), some (.int (cI a)), some (.int q), some (.int done), some (.int (if cI s = done then lwd f P j (8 - j) else f)), some (.int (cI s)), some (.int (cI (7 - j))), none, none, none], [])) (h' := (sh0, px_up σ 53 (upd (σ 53) s (bo (anP P j))))) (by rw [dI_c (by omega)]) ?_
    refine tm_k (px_up σ 53 (upd (σ 53) s (bo (anP P j)))) ha q done _ hs (k := 7 - j) (by omega) (P (7 - j)) ?_ ?_
    · rw [pu_o _ (by decide), pu_o _ (by decide), pu_o _ (by decide), pu_s, hP]
      exact (rwP_upd (by omega) _).symm
    · refine px_W.to ?_ kk
      have hj' : 8 - (j + 1) = 7 - j := by omega
      have hl : lwd f P (j + 1) (7 - j) = if P (7 - j) = true then cI (7 - j) else lwd f P j (8 - j) := by rw [lwd, show 7 - j + 1 = 8 - j by omega]
      have hd : dI 7 (j + 1) = cI (7 - j) + (-1) := by rw [dI, dI_c (by omega)]
      have hb : bo (!decide (bo (anP P j) = 0) || P (7 - j)) = bo (anP P (j + 1)) := by rw [anP]; cases anP P j <;> simp [bo]
      have hf : (if (P (7 - j) && decide (cI s = done)) = true then cI (7 - j) else if cI s = done then lwd f P j (8 - j) else f) = (if cI s = done then lwd f P (j + 1) (8 - (j + 1)) else f) := by
        rw [hj', hl]
        by_cases e : cI s = done <;> cases P (7 - j) <;> simp [e]
      rw [pu_s, px_upup, upd_upd, upd_at, hb, hf, hd]
  · exact px_W.to (by rw [show dI 7 8 = -1 from dI_e 7]) hc
theorem tm_out (σ : px_Sg) {a : Nat} (ha : a < 8) (q : Int32) {d : Nat} (hd8 : d < 256)
    (hq : Q (some (.int (if q = 1 then rwF (σ 42) (σ 45) (σ 43) (σ 53) a (cI d) 256 else if rwT (σ 42) (σ 45) (σ 43) (σ 53) a 256 d = 0 then 1 else 0))) (sh0, px_up σ 53 (rwT (σ 42) (σ 45) (σ 43) (σ 53) a 256))) :
    px_W L xs mX3_turns (62, [some (.ref 40), some (.int (cI a)), some (.int q), some (.int (cI d)), some (.int (-6)), some (.int 255), none, none, none, none], []) (sh0, σ) Q := by
  refine px_W.to (f' := (62, [some (.ref 40), some (.int (cI a)), some (.int q), some (.int (cI d)), some (.int (rwF (σ 42) (σ 45) (σ 43) (σ 53) a (cI d) 0)), some (.int (dI 255 0)), none, none, none, none], [])) (h' := (sh0, px_up σ 53 (rwT (σ 42) (σ 45) (σ 43) (σ 53) a 0))) (by rw [rwT, px_up_self]; rfl) ?_
  refine px_W.loop 256 (fun j => ((62, [some (.ref 40), some (.int (cI a)), some (.int q), some (.int (cI d)), some (.int (rwF (σ 42) (σ 45) (σ 43) (σ 53) a (cI d) j)), some (.int (dI 255 j)), none, none, none, none], []), (sh0, px_up σ 53 (rwT (σ 42) (σ 45) (σ 43) (σ 53) a j)))) (fun _ => True) trivial (fun j hj _ kk => ?_) (fun _ => ?_)
  · have kk := kk trivial
    simp only at kk
    refine px_W.to (f' := (62, [some (.ref 40), some (.int (cI a)), some (.int q), some (.int (cI d)), some (.int (rwF (σ 42) (σ 45) (σ 43) (σ 53) a (cI d) j)), some (.int (cI (255 - j))), none, none, none, none], [])) (h' := (sh0, px_up σ 53 (rwT (σ 42) (σ 45) (σ 43) (σ 53) a j))) (by rw [dI_c (by omega)]) ?_
    refine tm_s _ q (cI d) _ (s := 255 - j) (by omega) ?_
    refine tm_in (px_up σ 53 (rwT (σ 42) (σ 45) (σ 43) (σ 53) a j)) ha q (cI d) _ (s := 255 - j) (by omega) (rwP (σ 42) (σ 45) (σ 43) (rwT (σ 42) (σ 45) (σ 43) (σ 53) a j) a (255 - j)) (by rw [pu_o _ (by decide), pu_o _ (by decide), pu_o _ (by decide), pu_s]) ?_
    refine tm_x _ q (cI d) _ (s := 255 - j) ?_
    refine px_W.to ?_ kk
    rw [pu_s, px_upup, rwT, rwF, dI, dI_c (by omega)]
  · refine px_W.to (f' := (62, [some (.ref 40), some (.int (cI a)), some (.int q), some (.int (cI d)), some (.int (rwF (σ 42) (σ 45) (σ 43) (σ 53) a (cI d) 256)), some (.int (-1)), none, none, none, none], [])) (h' := (sh0, px_up σ 53 (rwT (σ 42) (σ 45) (σ 43) (σ 53) a 256))) (by rw [show dI 255 256 = -1 from dI_e 255]) ?_
    refine tm_e _ q _ hd8 ?_
    rw [pu_s]
    exact hq
theorem lwd_congr {d0 : Int32} {P P' : Nat → Bool} : ∀ (d k : Nat), (∀ i, k ≤ i → i < k + d → P i = P' i) → lwd d0 P d k = lwd d0 P' d k
  | 0, _, _ => rfl
  | d + 1, k, h => by rw [lwd, lwd, h k (by omega) (by omega), lwd_congr d (k + 1) (fun i h1 h2 => h i (by omega) (by omega))]
theorem anP_congr {P P' : Nat → Bool} (h : ∀ i, i < 8 → P i = P' i) : ∀ j, anP P j = anP P' j
  | 0 => rfl
  | j + 1 => by rw [anP, anP, anP_congr h j, h (7 - j) (by omega)]
theorem anP_lwd (P : Nat → Bool) : ∀ j, j ≤ 8 → anP P j = !decide (lwd (-6) P j (8 - j) = -6)
  | 0, _ => rfl
  | j + 1, h => by
    rw [anP, anP_lwd P j (by omega), lwd, show 8 - (j + 1) = 7 - j by omega, show 7 - j + 1 = 8 - j by omega]
    cases P (7 - j) with
    | true => simp [cI_n6 (i := 7 - j) (by omega)]
    | false => simp
theorem rw_same {u n g f w : Nat → Int32} {a d : Nat} (hd8 : d < 256) : ∀ j, j ≤ 256 → (∀ s, 256 - j ≤ s → s < 256 → rwT u n g w a j s = bo (!decide (fwT u n g f a j s = -6))) ∧ rwF u n g w a (cI d) j = if 256 - j ≤ d then fwT u n g f a j d else -6
  | 0, _ => ⟨fun s h1 h2 => absurd h1 (by omega), by rw [if_neg (by omega)]; rfl⟩
  | j + 1, hj => by
    obtain ⟨i1, i2⟩ := rw_same (u := u) (n := n) (g := g) (f := f) (w := w) (a := a) hd8 j (by omega)
    have hP : ∀ k, k < 8 → rwP u n g (rwT u n g w a j) a (255 - j) k = wnP u n g (fwT u n g f a j) a (255 - j) k := fun k hk => by
      unfold rwP wnP
      cases h : cf u (cI (255 - j)) k with
      | false => rfl
      | true =>
        have h1 := cf_lt hk h
        have h2 := or_lt (show 255 - j < 256 by omega) hk
        rw [i1 ((255 - j) ||| 2 ^ k) (by omega) h2]
        by_cases e : fwT u n g f a j ((255 - j) ||| 2 ^ k) = -6 <;> simp [e, bo]
    have hl : ∀ d0, lwd d0 (rwP u n g (rwT u n g w a j) a (255 - j)) 8 0 = lwd d0 (wnP u n g (fwT u n g f a j) a (255 - j)) 8 0 := fun d0 => lwd_congr 8 0 (fun i _ h2 => hP i (by omega))
    refine ⟨fun s h1 h2 => ?_, ?_⟩
    · rw [rwT, fwT]
      by_cases e : s = 255 - j
      · subst e
        rw [upd_at, upd_at, anP_lwd _ 8 (Nat.le_refl _), Nat.sub_self, hl]
      · rw [upd_ne _ e, upd_ne _ e]
        exact i1 s (by omega) h2
    · rw [rwF, fwT]
      by_cases e : 255 - j = d
      · rw [if_pos (by rw [e]), hl, i2, if_neg (by omega), if_pos (by omega), e, upd_at]
      · rw [if_neg (by rw [cI_n, cI_n]; exact fun z => e ((nI_eq (by omega) (by omega)).mp z)), i2, upd_ne _ (Ne.symm e)]
        by_cases q : 256 - j ≤ d
        · rw [if_pos q, if_pos (by omega)]
        · rw [if_neg q, if_neg (by omega)]
theorem o_turns (hR : Rel σ) (p q : Int32) : Op L xs mX2_turns mX3_turns [.int p, .int q] σ := by
  obtain ⟨e1, e2, e3, e4, e5, e6⟩ := hR.2.2.1
  cases h : i8 p with
  | false => exact ⟨_, σ, σ, tX_turns0 σ p q h, tM_turns0 σ p q h, hR⟩
  | true =>
    obtain ⟨k, hk, rfl⟩ := i8_ex h
    cases hv : i2 q with
    | false => exact ⟨_, σ, σ, tX_turns1 σ hk q hv, tM_turns1 σ hk q hv, hR⟩
    | true =>
      have hD : ∀ (τ : px_Sg), τ 41 = σ 2 → τ 44 = σ 5 → dS ((s_asNow τ) 41) ((s_asNow τ) 49) = dS (σ 2) (σ 5) := fun τ h1 h2 => by
        rw [asN_49, asN_o _ (k := 41) (by decide) (by decide), dS_asN, h1, h2]
      have h43 : ∀ (τ : px_Sg), τ 43 = σ 4 → (s_asNow τ) 43 = σ 4 := fun τ h1 => by rw [asN_o _ (by decide) (by decide), h1]
      have h45 : ∀ (τ : px_Sg), τ 45 = σ 6 → (s_asNow τ) 45 = σ 6 := fun τ h1 => by rw [asN_o _ (by decide) (by decide), h1]
      cases hg : gB (σ 6) (σ 4) (dS (σ 2) (σ 5)) k with
      | true => exact Op.of (tX_turns2 σ hk q hv hg) (tM_turns2 σ hk q hv (by rw [hD σ e1 e4, h43 σ e3, h45 σ e5]; exact hg)) rfl (hR.sm (asN_Sm σ))
      | false =>
        cases hh : gB (σ 6) (σ 4) 255 k with
        | false => exact Op.of (tX_turns3 σ hk q hv hg hh) (tM_turns3 σ hk q hv (by rw [hD σ e1 e4, h43 σ e3, h45 σ e5]; exact hg) (by rw [h43 σ e3, h45 σ e5]; exact hh)) rfl (hR.sm (asN_Sm σ))
        | true =>
          obtain ⟨d, hd8, hd⟩ := lo8_ex (lo8_mk (fun k => decide (σ 5 k = σ 2 k)))
          have hd : dS (σ 2) (σ 5) = nI d := hd
          have hX := tX_turns (L := L) (xs := xs) σ hk q hv hg hh hd hd8
          revert hX
          generalize hF : fwT (σ 3) (σ 6) (σ 4) (σ 39) k 256 = F
          intro hX
          have a1 : (px_up σ 39 F) 41 = σ 2 := by rw [pu_o _ (by decide), e1]
          have a4 : (px_up σ 39 F) 44 = σ 5 := by rw [pu_o _ (by decide), e4]
          have a3 : (px_up σ 39 F) 43 = σ 4 := by rw [pu_o _ (by decide), e3]
          have a5 : (px_up σ 39 F) 45 = σ 6 := by rw [pu_o _ (by decide), e5]
          have a2 : (s_asNow (px_up σ 39 F)) 42 = σ 3 := by rw [asN_o _ (by decide) (by decide), pu_o _ (by decide), e2]
          have hM : px_E L xs mX3_turns [.ref 40, .int (cI k), .int q] (px_up σ 39 F) (some (.int (if q = 1 then rwF (σ 3) (σ 6) (σ 4) ((s_asNow (px_up σ 39 F)) 53) k (cI d) 256 else if rwT (σ 3) (σ 6) (σ 4) ((s_asNow (px_up σ 39 F)) 53) k 256 d = 0 then 1 else 0))) (px_up (s_asNow (px_up σ 39 F)) 53 (rwT (σ 3) (σ 6) (σ 4) ((s_asNow (px_up σ 39 F)) 53) k 256)) := by
            refine tm_0 (px_up σ 39 F) hk q hv (by rw [hD _ a1 a4, h43 _ a3, h45 _ a5]; exact hg) (by rw [h43 _ a3, h45 _ a5]; exact hh) ?_
            rw [hD _ a1 a4, hd, ← cI_n]
            refine tm_out _ hk q hd8 ?_
            rw [a2, h43 _ a3, h45 _ a5]
            exact ⟨rfl, rfl⟩
          refine Op.of hX hM ?_ (hR.sm (((Sm.up σ (by omega) F).tr (asN_Sm _)).tr (Sm.up _ (by omega) _)))
          obtain ⟨r1, r2⟩ := rw_same (u := σ 3) (n := σ 6) (g := σ 4) (f := σ 39) (w := (s_asNow (px_up σ 39 F)) 53) (a := k) hd8 256 (Nat.le_refl _)
          rw [if_pos (by omega)] at r2
          rw [r2, r1 d (by omega) hd8, hF]
          by_cases e : F d = -6 <;> simp [e, bo]
end OPS13
