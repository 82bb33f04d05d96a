/-! REASONING ABOUT RUNS OF THE PURE MACHINE -/
theorem px_mono1 {L : Nat} {xs : Nat → Int32} : ∀ (n : Nat) {M : px_M} {f : px_F} {h : px_H} {x : Option Value × px_H}, px_run px_T L xs n M f h = some x → px_run px_T L xs (n + 1) M f h = some x := by
  intro n
  induction n with
  | zero => intro M f h x hr; cases hr
  | succ n ih =>
    intro M f h x hr
    unfold px_run at hr ⊢
    split at hr
    · cases hr
    · rename_i f2 h2 e1
      exact ih hr
    · rename_i r2 e1
      exact hr
    · rename_i j as st e1
      split at hr
      · cases hr
      · rename_i M' e2
        cases e3 : px_ok M M' as with
        | false => rw [e3] at hr; cases hr
        | true =>
          rw [e3] at hr
          simp only [cond_true] at hr ⊢
          split at hr
          · cases hr
          · rename_i r2 h2 e4
            rw [ih e4]
            exact ih hr
theorem px_mono {L : Nat} {xs : Nat → Int32} {n k : Nat} {M : px_M} {f : px_F} {h : px_H} {x : Option Value × px_H} (hr : px_run px_T L xs n M f h = some x) (hk : n ≤ k) : px_run px_T L xs k M f h = some x := by
  obtain ⟨d, rfl⟩ := Nat.le.dest hk
  clear hk
  induction d with
  | zero => exact hr
  | succ d ih => exact px_mono1 _ ih
/-- the run ends, with Q -/
def px_W (L : Nat) (xs : Nat → Int32) (M : px_M) (f : px_F) (h : px_H) (Q : Option Value → px_H → Prop) : Prop := ∃ n r h', px_run px_T L xs n M f h = some (r, h') ∧ Q r h'
section PW1
variable {L : Nat} {xs : Nat → Int32} {M M' : px_M} {f f' : px_F} {h h' : px_H} {Q Q' : Option Value → px_H → Prop}
theorem px_W.imp (k : px_W L xs M f h Q') (hq : ∀ r h', Q' r h' → Q r h') : px_W L xs M f h Q := by
  obtain ⟨n, r, h', h1, h2⟩ := k
  exact ⟨n, r, h', h1, hq r h' h2⟩
theorem px_W.go (hs : px_nx M L xs f h = some (.inl (f', h'))) (k : px_W L xs M f' h' Q) : px_W L xs M f h Q := by
  obtain ⟨n, r, h2, h1, h3⟩ := k
  refine ⟨n + 1, r, h2, ?_, h3⟩
  unfold px_run
  rw [hs]
  exact h1
theorem px_W.ret {r : Option Value} (hs : px_nx M L xs f h = some (.inr (.inl r))) (k : Q r h) : px_W L xs M f h Q := by
  refine ⟨1, r, h, ?_, k⟩
  unfold px_run
  rw [hs]
theorem px_W.call {j : Nat} {as st : List Value} (hs : px_nx M L xs f h = some (.inr (.inr (j, as, st)))) (hM : px_T j = some M') (ho : px_ok M M' as = true) (k1 : px_W L xs M' (0, px_ent as (px_ml M'), []) h Q') (k : ∀ r h1, Q' r h1 → px_W L xs M (f.1 + 3, f.2.1, r.toList ++ st) h1 Q) : px_W L xs M f h Q := by
  obtain ⟨n1, r1, h1, a1, a2⟩ := k1
  obtain ⟨n2, r2, h2, b1, b2⟩ := k r1 h1 a2
  refine ⟨(n1 + n2) + 1, r2, h2, ?_, b2⟩
  unfold px_run
  rw [hs]
  simp only [hM, ho, cond_true]
  rw [px_mono a1 (Nat.le_add_right n1 n2)]
  exact px_mono b1 (Nat.le_add_left n2 n1)
/-- so many plain steps -/
def px_sN (M : px_M) (L : Nat) (xs : Nat → Int32) : Nat → px_F → px_H → Option (px_F × px_H)
  | 0, f, h => some (f, h)
  | n + 1, f, h => match px_nx M L xs f h with
    | some (.inl q) => px_sN M L xs n q.1 q.2
    | _ => none
theorem px_W.run (n : Nat) : ∀ {f f' : px_F} {h h' : px_H}, px_sN M L xs n f h = some (f', h') → px_W L xs M f' h' Q → px_W L xs M f h Q := by
  induction n with
  | zero => intro f f' h h' hs k; cases hs; exact k
  | succ n ih =>
    intro f f' h h' hs k
    unfold px_sN at hs
    split at hs
    · rename_i q e
      exact px_W.go (f' := q.1) (h' := q.2) e (ih hs k)
    · cases hs
/-- a loop: the state at its head is known at each turn -/
theorem px_W.loop (N : Nat) (S : Nat → px_F × px_H) (I : Nat → Prop) (h0 : I 0) (hs : ∀ i, i < N → I i → (I (i + 1) → px_W L xs M (S (i + 1)).1 (S (i + 1)).2 Q) → px_W L xs M (S i).1 (S i).2 Q) (he : I N → px_W L xs M (S N).1 (S N).2 Q) : px_W L xs M (S 0).1 (S 0).2 Q := by
  have key : ∀ d i, i + d = N → I i → px_W L xs M (S i).1 (S i).2 Q := by
    intro d
    induction d with
    | zero => intro i hi hI; have : i = N := by omega
              subst this; exact he hI
    | succ d ih => intro i hi hI; exact hs i (by omega) hI (fun hI' => ih (i + 1) (by omega) hI')
  exact key N 0 (by omega) h0
end PW1
/-! rules for what is no plain computing -/
section PW2
variable {L : Nat} {xs : Nat → Int32} {M M' : px_M} {h h' : px_H} {Q Q' : Option Value → px_H → Prop} {pc l t b2 : Nat} {o : Int} {v2 : Value} {loc : List (Option Value)} {r : List Value} {x y : Int32}
theorem px_W.st {f' : px_F} {i : px_I} {st : List Value} (hi : px_at (px_is M) pc = some i) (hn : ∀ q, px_st (px_sc M) L xs i pc loc st h = some q → px_nx M L xs (pc, loc, st) h = some (.inl q)) (hs : px_st (px_sc M) L xs i pc loc st h = some (f', h')) (k : px_W L xs M f' h' Q) : px_W L xs M (pc, loc, st) h Q := px_W.go (hn _ hs) k
theorem px_W.if_eq (hi : px_at (px_is M) pc = some (.ifCond .eq o, l, v2, t, b2)) (kt : x = 0 → px_W L xs M (t, loc, r) h Q) (kf : ¬ x = 0 → px_W L xs M (pc + 3, loc, r) h Q) : px_W L xs M (pc, loc, .int x :: r) h Q := by
  by_cases c : x = 0
  · exact px_W.go (f' := (t, loc, r)) (h' := h) (by unfold px_nx; simp only [hi, px_st, if_pos c]; rfl) (kt c)
  · exact px_W.go (f' := (pc + 3, loc, r)) (h' := h) (by unfold px_nx; simp only [hi, px_st, if_neg c]; rfl) (kf c)
theorem px_W.if_ne (hi : px_at (px_is M) pc = some (.ifCond .ne o, l, v2, t, b2)) (kt : x = 0 → px_W L xs M (pc + 3, loc, r) h Q) (kf : ¬ x = 0 → px_W L xs M (t, loc, r) h Q) : px_W L xs M (pc, loc, .int x :: r) h Q := by
  by_cases c : x = 0
  · exact px_W.go (f' := (pc + 3, loc, r)) (h' := h) (by unfold px_nx; simp only [hi, px_st, if_pos c]; rfl) (kt c)
  · exact px_W.go (f' := (t, loc, r)) (h' := h) (by unfold px_nx; simp only [hi, px_st, if_neg c]; rfl) (kf c)
theorem px_W.if_lt (hi : px_at (px_is M) pc = some (.ifCond .lt o, l, v2, t, b2)) (kt : x < 0 → px_W L xs M (t, loc, r) h Q) (kf : ¬ x < 0 → px_W L xs M (pc + 3, loc, r) h Q) : px_W L xs M (pc, loc, .int x :: r) h Q := by
  by_cases c : x < 0
  · exact px_W.go (f' := (t, loc, r)) (h' := h) (by unfold px_nx; simp only [hi, px_st, if_pos c]; rfl) (kt c)
  · exact px_W.go (f' := (pc + 3, loc, r)) (h' := h) (by unfold px_nx; simp only [hi, px_st, if_neg c]; rfl) (kf c)
theorem px_W.if_ge (hi : px_at (px_is M) pc = some (.ifCond .ge o, l, v2, t, b2)) (kt : 0 ≤ x → px_W L xs M (t, loc, r) h Q) (kf : ¬ 0 ≤ x → px_W L xs M (pc + 3, loc, r) h Q) : px_W L xs M (pc, loc, .int x :: r) h Q := by
  by_cases c : 0 ≤ x
  · exact px_W.go (f' := (t, loc, r)) (h' := h) (by unfold px_nx; simp only [hi, px_st, if_pos c]; rfl) (kt c)
  · exact px_W.go (f' := (pc + 3, loc, r)) (h' := h) (by unfold px_nx; simp only [hi, px_st, if_neg c]; rfl) (kf c)
theorem px_W.if_gt (hi : px_at (px_is M) pc = some (.ifCond .gt o, l, v2, t, b2)) (kt : 0 < x → px_W L xs M (t, loc, r) h Q) (kf : ¬ 0 < x → px_W L xs M (pc + 3, loc, r) h Q) : px_W L xs M (pc, loc, .int x :: r) h Q := by
  by_cases c : 0 < x
  · exact px_W.go (f' := (t, loc, r)) (h' := h) (by unfold px_nx; simp only [hi, px_st, if_pos c]; rfl) (kt c)
  · exact px_W.go (f' := (pc + 3, loc, r)) (h' := h) (by unfold px_nx; simp only [hi, px_st, if_neg c]; rfl) (kf c)
theorem px_W.if_le (hi : px_at (px_is M) pc = some (.ifCond .le o, l, v2, t, b2)) (kt : x ≤ 0 → px_W L xs M (t, loc, r) h Q) (kf : ¬ x ≤ 0 → px_W L xs M (pc + 3, loc, r) h Q) : px_W L xs M (pc, loc, .int x :: r) h Q := by
  by_cases c : x ≤ 0
  · exact px_W.go (f' := (t, loc, r)) (h' := h) (by unfold px_nx; simp only [hi, px_st, if_pos c]; rfl) (kt c)
  · exact px_W.go (f' := (pc + 3, loc, r)) (h' := h) (by unfold px_nx; simp only [hi, px_st, if_neg c]; rfl) (kf c)
theorem px_W.icmp_eq (hi : px_at (px_is M) pc = some (.if_icmp .eq o, l, v2, t, b2)) (kt : x = y → px_W L xs M (t, loc, r) h Q) (kf : ¬ x = y → px_W L xs M (pc + 3, loc, r) h Q) : px_W L xs M (pc, loc, .int y :: .int x :: r) h Q := by
  by_cases c : x = y
  · exact px_W.go (f' := (t, loc, r)) (h' := h) (by unfold px_nx; simp only [hi, px_st, if_pos c]; rfl) (kt c)
  · exact px_W.go (f' := (pc + 3, loc, r)) (h' := h) (by unfold px_nx; simp only [hi, px_st, if_neg c]; rfl) (kf c)
theorem px_W.icmp_ne (hi : px_at (px_is M) pc = some (.if_icmp .ne o, l, v2, t, b2)) (kt : x = y → px_W L xs M (pc + 3, loc, r) h Q) (kf : ¬ x = y → px_W L xs M (t, loc, r) h Q) : px_W L xs M (pc, loc, .int y :: .int x :: r) h Q := by
  by_cases c : x = y
  · exact px_W.go (f' := (pc + 3, loc, r)) (h' := h) (by unfold px_nx; simp only [hi, px_st, if_pos c]; rfl) (kt c)
  · exact px_W.go (f' := (t, loc, r)) (h' := h) (by unfold px_nx; simp only [hi, px_st, if_neg c]; rfl) (kf c)
theorem px_W.icmp_lt (hi : px_at (px_is M) pc = some (.if_icmp .lt o, l, v2, t, b2)) (kt : x < y → px_W L xs M (t, loc, r) h Q) (kf : ¬ x < y → px_W L xs M (pc + 3, loc, r) h Q) : px_W L xs M (pc, loc, .int y :: .int x :: r) h Q := by
  by_cases c : x < y
  · exact px_W.go (f' := (t, loc, r)) (h' := h) (by unfold px_nx; simp only [hi, px_st, if_pos c]; rfl) (kt c)
  · exact px_W.go (f' := (pc + 3, loc, r)) (h' := h) (by unfold px_nx; simp only [hi, px_st, if_neg c]; rfl) (kf c)
theorem px_W.icmp_ge (hi : px_at (px_is M) pc = some (.if_icmp .ge o, l, v2, t, b2)) (kt : y ≤ x → px_W L xs M (t, loc, r) h Q) (kf : ¬ y ≤ x → px_W L xs M (pc + 3, loc, r) h Q) : px_W L xs M (pc, loc, .int y :: .int x :: r) h Q := by
  by_cases c : y ≤ x
  · exact px_W.go (f' := (t, loc, r)) (h' := h) (by unfold px_nx; simp only [hi, px_st, if_pos c]; rfl) (kt c)
  · exact px_W.go (f' := (pc + 3, loc, r)) (h' := h) (by unfold px_nx; simp only [hi, px_st, if_neg c]; rfl) (kf c)
theorem px_W.icmp_gt (hi : px_at (px_is M) pc = some (.if_icmp .gt o, l, v2, t, b2)) (kt : y < x → px_W L xs M (t, loc, r) h Q) (kf : ¬ y < x → px_W L xs M (pc + 3, loc, r) h Q) : px_W L xs M (pc, loc, .int y :: .int x :: r) h Q := by
  by_cases c : y < x
  · exact px_W.go (f' := (t, loc, r)) (h' := h) (by unfold px_nx; simp only [hi, px_st, if_pos c]; rfl) (kt c)
  · exact px_W.go (f' := (pc + 3, loc, r)) (h' := h) (by unfold px_nx; simp only [hi, px_st, if_neg c]; rfl) (kf c)
theorem px_W.icmp_le (hi : px_at (px_is M) pc = some (.if_icmp .le o, l, v2, t, b2)) (kt : x ≤ y → px_W L xs M (t, loc, r) h Q) (kf : ¬ x ≤ y → px_W L xs M (pc + 3, loc, r) h Q) : px_W L xs M (pc, loc, .int y :: .int x :: r) h Q := by
  by_cases c : x ≤ y
  · exact px_W.go (f' := (t, loc, r)) (h' := h) (by unfold px_nx; simp only [hi, px_st, if_pos c]; rfl) (kt c)
  · exact px_W.go (f' := (pc + 3, loc, r)) (h' := h) (by unfold px_nx; simp only [hi, px_st, if_neg c]; rfl) (kf c)
theorem px_W.iald {k n i : Nat} {rf : List (Option Nat)} {sh : px_S} {σ : Nat → Nat → Int32} (hi : px_at (px_is M) pc = some (.iaload, l, v2, t, b2)) (hc : sh[k]? = some (4, n, rf)) (hx : x = nI i) (hin : i < n) (hn : n < 2147483648) (kk : px_W L xs M (pc + 1, loc, .int (σ k i) :: r) (sh, σ) Q) : px_W L xs M (pc, loc, .int x :: .ref k :: r) (sh, σ) Q := by
  subst hx
  have e1 : (nI i).toNatClampNeg = i := nI_clamp (by omega)
  have e2 : ¬ (nI i < 0 ∨ n ≤ i) := fun q => q.elim (nI_pos (by omega)) (by omega)
  exact px_W.go (f' := (pc + 1, loc, .int (σ k i) :: r)) (h' := (sh, σ)) (by unfold px_nx; simp only [hi, px_st, hc, if_neg e2, e1]; rfl) kk
theorem px_W.zald {k n i : Nat} {rf : List (Option Nat)} {sh : px_S} {σ : Nat → Nat → Int32} (hi : px_at (px_is M) pc = some (.baload, l, v2, t, b2)) (hc : sh[k]? = some (5, n, rf)) (hx : x = nI i) (hin : i < n) (hn : n < 2147483648) (kk : px_W L xs M (pc + 1, loc, .int (σ k i) :: r) (sh, σ) Q) : px_W L xs M (pc, loc, .int x :: .ref k :: r) (sh, σ) Q := by
  subst hx
  have e1 : (nI i).toNatClampNeg = i := nI_clamp (by omega)
  have e2 : ¬ (nI i < 0 ∨ n ≤ i) := fun q => q.elim (nI_pos (by omega)) (by omega)
  exact px_W.go (f' := (pc + 1, loc, .int (σ k i) :: r)) (h' := (sh, σ)) (by unfold px_nx; simp only [hi, px_st, hc, if_neg e2, e1]; rfl) kk
theorem px_W.iast {k n i : Nat} {rf : List (Option Nat)} {sh : px_S} {σ : Nat → Nat → Int32} (hi : px_at (px_is M) pc = some (.iastore, l, v2, t, b2)) (hc : sh[k]? = some (4, n, rf)) (hx : x = nI i) (hin : i < n) (hn : n < 2147483648) (kk : px_W L xs M (pc + 1, loc, r) (sh, px_up σ k (upd (σ k) i y)) Q) : px_W L xs M (pc, loc, .int y :: .int x :: .ref k :: r) (sh, σ) Q := by
  subst hx
  have e1 : (nI i).toNatClampNeg = i := nI_clamp (by omega)
  have e2 : ¬ (nI i < 0 ∨ n ≤ i) := fun q => q.elim (nI_pos (by omega)) (by omega)
  exact px_W.go (f' := (pc + 1, loc, r)) (h' := (sh, px_up σ k (upd (σ k) i y))) (by unfold px_nx; simp only [hi, px_st, hc, if_neg e2, e1]; rfl) kk
theorem px_W.zast {k n i : Nat} {rf : List (Option Nat)} {sh : px_S} {σ : Nat → Nat → Int32} (hi : px_at (px_is M) pc = some (.bastore, l, v2, t, b2)) (hc : sh[k]? = some (5, n, rf)) (hx : x = nI i) (hin : i < n) (hn : n < 2147483648) (hy : y = 0 ∨ y = 1) (kk : px_W L xs M (pc + 1, loc, r) (sh, px_up σ k (upd (σ k) i y)) Q) : px_W L xs M (pc, loc, .int y :: .int x :: .ref k :: r) (sh, σ) Q := by
  subst hx
  have e1 : (nI i).toNatClampNeg = i := nI_clamp (by omega)
  have e2 : ¬ (nI i < 0 ∨ n ≤ i) := fun q => q.elim (nI_pos (by omega)) (by omega)
  have e3 : ¬ (¬ y = 0 ∧ ¬ y = 1) := fun q => hy.elim q.1 q.2
  exact px_W.go (f' := (pc + 1, loc, r)) (h' := (sh, px_up σ k (upd (σ k) i y))) (by unfold px_nx; simp only [hi, px_st, hc, if_neg e2, if_neg e3, e1]; rfl) kk
/-- the script -/
theorem px_W.sld {i : Nat} (hi : px_at (px_is M) pc = some (.iaload, l, v2, t, b2)) (hsc : px_sc M = true) (hx : x = nI i) (hin : i < L) (hn : L < 2147483648) {w : Nat} (kk : px_W L xs M (pc + 1, loc, .int (xs i) :: r) h Q) : px_W L xs M (pc, loc, .int x :: .retAddr w :: r) h Q := by
  subst hx
  have e1 : (nI i).toNatClampNeg = i := nI_clamp (by omega)
  have e2 : ¬ (nI i < 0 ∨ L ≤ i) := fun q => q.elim (nI_pos (by omega)) (by omega)
  exact px_W.go (f' := (pc + 1, loc, .int (xs i) :: r)) (h' := h) (by unfold px_nx; simp only [hi, px_st, hsc, cond_true, if_neg e2, e1]; rfl) kk
theorem px_W.putz {k n c j : Nat} {rf : List (Option Nat)} {sh : px_S} {σ : Nat → Nat → Int32} {idx : Nat} (hi : px_at (px_is M) pc = some (.putfield idx, l, .int 1, c, j)) (hc : sh[k]? = some (c, n, rf)) (hx : x = 0 ∨ x = 1) (kk : px_W L xs M (pc + 3, loc, r) (sh, px_up σ k (upd (σ k) j x)) Q) : px_W L xs M (pc, loc, .int x :: .ref k :: r) (sh, σ) Q := by
  have e3 : ¬ (True ∧ ¬ x = 0 ∧ ¬ x = 1) := fun q => hx.elim q.2.1 q.2.2
  exact px_W.go (f' := (pc + 3, loc, r)) (h' := (sh, px_up σ k (upd (σ k) j x))) (by unfold px_nx; simp only [hi, px_st, hc, Nat.beq_refl, cond_true, if_neg e3]; rfl) kk
theorem px_W.puti {k n c j : Nat} {rf : List (Option Nat)} {sh : px_S} {σ : Nat → Nat → Int32} {idx : Nat} (hi : px_at (px_is M) pc = some (.putfield idx, l, .int 0, c, j)) (hc : sh[k]? = some (c, n, rf)) (kk : px_W L xs M (pc + 3, loc, r) (sh, px_up σ k (upd (σ k) j x)) Q) : px_W L xs M (pc, loc, .int x :: .ref k :: r) (sh, σ) Q := by
  have e3 : ¬ ((0 : Int32) = 1 ∧ ¬ x = 0 ∧ ¬ x = 1) := fun q => absurd q.1 (by decide)
  exact px_W.go (f' := (pc + 3, loc, r)) (h' := (sh, px_up σ k (upd (σ k) j x))) (by unfold px_nx; simp only [hi, px_st, hc, Nat.beq_refl, cond_true, if_neg e3]; rfl) kk
theorem px_W.idiv (hi : px_at (px_is M) pc = some (.idiv, l, v2, t, b2)) (hy : ¬ y = 0) (kk : px_W L xs M (pc + 1, loc, .int (x / y) :: r) h Q) : px_W L xs M (pc, loc, .int y :: .int x :: r) h Q :=
  px_W.go (f' := (pc + 1, loc, .int (x / y) :: r)) (h' := h) (by unfold px_nx; simp only [hi, px_st, if_neg hy]; rfl) kk
theorem px_W.irem (hi : px_at (px_is M) pc = some (.irem, l, v2, t, b2)) (hy : ¬ y = 0) (kk : px_W L xs M (pc + 1, loc, .int (x - x / y * y) :: r) h Q) : px_W L xs M (pc, loc, .int y :: .int x :: r) h Q :=
  px_W.go (f' := (pc + 1, loc, .int (x - x / y * y) :: r)) (h' := h) (by unfold px_nx; simp only [hi, px_st, if_neg hy]; rfl) kk
theorem px_W.ldiv {x y : Int64} (hi : px_at (px_is M) pc = some (.ldiv, l, v2, t, b2)) (hy : ¬ y = 0) (kk : px_W L xs M (pc + 1, loc, .long (x / y) :: r) h Q) : px_W L xs M (pc, loc, .long y :: .long x :: r) h Q :=
  px_W.go (f' := (pc + 1, loc, .long (x / y) :: r)) (h' := h) (by unfold px_nx; simp only [hi, px_st, if_neg hy]; rfl) kk
theorem px_W.lrem {x y : Int64} (hi : px_at (px_is M) pc = some (.lrem, l, v2, t, b2)) (hy : ¬ y = 0) (kk : px_W L xs M (pc + 1, loc, .long (x - x / y * y) :: r) h Q) : px_W L xs M (pc, loc, .long y :: .long x :: r) h Q :=
  px_W.go (f' := (pc + 1, loc, .long (x - x / y * y) :: r)) (h' := h) (by unfold px_nx; simp only [hi, px_st, if_neg hy]; rfl) kk
theorem px_W.tsw {df lo hh : Int} {offs : Array Int} {tg : Nat} (hi : px_at (px_is M) pc = some (.tableswitch df lo hh offs, l, v2, t, b2)) (hs : px_sw pc df lo hh offs x = some tg) (kk : px_W L xs M (tg, loc, r) h Q) : px_W L xs M (pc, loc, .int x :: r) h Q :=
  px_W.go (f' := (tg, loc, r)) (h' := h) (by unfold px_nx; simp only [hi, px_st, hs]; rfl) kk
theorem px_W.iret (hi : px_at (px_is M) pc = some (.ireturn, l, v2, t, b2)) (hr : px_rt M = 1) (k : Q (some (.int x)) h) : px_W L xs M (pc, loc, [.int x]) h Q :=
  px_W.ret (r := some (.int x)) (by unfold px_nx; simp only [hi, hr]) k
theorem px_W.zret (hi : px_at (px_is M) pc = some (.ireturn, l, v2, t, b2)) (hr : px_rt M = 2) (hx : x = 0 ∨ x = 1) (k : Q (some (.int x)) h) : px_W L xs M (pc, loc, [.int x]) h Q := by
  have e3 : ¬ (¬ x = 0 ∧ ¬ x = 1) := fun q => hx.elim q.1 q.2
  exact px_W.ret (r := some (.int x)) (by unfold px_nx; simp only [hi, hr, if_neg e3]) k
theorem px_W.lret {x : Int64} (hi : px_at (px_is M) pc = some (.lreturn, l, v2, t, b2)) (hr : px_rt M = 3) (k : Q (some (.long x)) h) : px_W L xs M (pc, loc, [.long x]) h Q :=
  px_W.ret (r := some (.long x)) (by unfold px_nx; simp only [hi, hr]) k
theorem px_W.vret (hi : px_at (px_is M) pc = some (.return_, l, v2, t, b2)) (hr : px_rt M = 0) (k : Q none h) : px_W L xs M (pc, loc, []) h Q :=
  px_W.ret (r := none) (by unfold px_nx; simp only [hi, hr]) k
theorem px_W.to {f f' : px_F} {h h' : px_H} (e : (f, h) = (f', h')) (k : px_W L xs M f' h' Q) : px_W L xs M f h Q := by cases e; exact k
end PW2
/-! the world behind the two constructors: cell 0 the class's object, 1 now, 10 trial, 19 and 28 the images, 37 the pad, 39 bySet; 40 the reference's object, 41 to 55 its rows -/
def sh0 : px_S := [(2, 10, [some 1, some 10, some 19, some 28, some 37, some 39, none, none, none, none]),
  (1, 15, [some 2, some 3, some 4, some 5, some 6, some 7, some 8, some 9, none, none, none, none, none, none, none]), (4, 8, []), (4, 8, []), (4, 8, []), (4, 8, []), (4, 8, []), (4, 8, []), (4, 8, []), (4, 4, []),
  (1, 15, [some 11, some 12, some 13, some 14, some 15, some 16, some 17, some 18, none, none, none, none, none, none, none]), (4, 8, []), (4, 8, []), (4, 8, []), (4, 8, []), (4, 8, []), (4, 8, []), (4, 8, []), (4, 4, []),
  (1, 15, [some 20, some 21, some 22, some 23, some 24, some 25, some 26, some 27, none, none, none, none, none, none, none]), (4, 8, []), (4, 8, []), (4, 8, []), (4, 8, []), (4, 8, []), (4, 8, []), (4, 8, []), (4, 4, []),
  (1, 15, [some 29, some 30, some 31, some 32, some 33, some 34, some 35, some 36, none, none, none, none, none, none, none]), (4, 8, []), (4, 8, []), (4, 8, []), (4, 8, []), (4, 8, []), (4, 8, []), (4, 8, []), (4, 4, []),
  (0, 2, [some 38, none]), (4, 60, []), (4, 256, []),
  (3, 26, [some 41, some 42, some 43, some 44, some 45, none, none, some 46, none, some 47, none, some 48, some 49, none, none, none, none, none, none, none, some 50, some 51, some 52, some 53, some 54, some 55]),
  (4, 8, []), (4, 8, []), (4, 8, []), (4, 8, []), (4, 8, []), (4, 4, []), (4, 24, []), (4, 60, []), (4, 8, []), (4, 256, []), (5, 256, []), (5, 256, []), (5, 256, []), (4, 180, []), (5, 2, [])]
abbrev px_Sg : Type := Nat → Nat → Int32
/-- the method answers v and leaves the numbers σ' -/
def px_E (L : Nat) (xs : Nat → Int32) (M : px_M) (as : List Value) (σ : px_Sg) (v : Option Value) (σ' : px_Sg) : Prop := px_W L xs M (0, px_ent as (px_ml M), []) (sh0, σ) (fun r h => r = v ∧ h = (sh0, σ'))
theorem px_W.cE {L : Nat} {xs : Nat → Int32} {M M' : px_M} {Q : Option Value → px_H → Prop} {pc j : Nat} {loc : List (Option Value)} {s0 as st : List Value} {σ σ' : px_Sg} {v : Option Value} (hs : px_nx M L xs (pc, loc, s0) (sh0, σ) = some (.inr (.inr (j, as, st)))) (hM : px_T j = some M') (ho : px_ok M M' as = true) (k1 : px_E L xs M' as σ v σ') (k : px_W L xs M (pc + 3, loc, v.toList ++ st) (sh0, σ') Q) : px_W L xs M (pc, loc, s0) (sh0, σ) Q :=
  px_W.call hs hM ho k1 (fun r h1 ⟨e1, e2⟩ => by subst e1; subst e2; exact k)
