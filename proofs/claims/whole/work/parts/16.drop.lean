/-! fewer locals known: the same run -/
def px_le (a b : List (Option Value)) : Prop := a.length = b.length ∧ ∀ k v, px_get a k = some v → px_get b k = some v
theorem px_le_put1 {a b a' : List (Option Value)} {k : Nat} {v : Value} (h : px_le a b) (hp : px_put1 a k v = some a') : ∃ b', px_put1 b k v = some b' ∧ px_le a' b' := by
  have hlt := px_put1_lt hp
  unfold px_put1 at hp ⊢
  rw [← h.1, show Nat.blt k a.length = true from Nat.ble_eq.mpr hlt] at *
  simp only [cond_true] at *
  cases hp
  refine ⟨_, rfl, by rw [List.length_set, List.length_set, px_clr_len, px_clr_len]; exact h.1, fun j w hj => ?_⟩
  rw [px_get_set] at hj ⊢
  by_cases e : j = k
  · subst e
    simp only [if_true, px_clr_len] at hj ⊢
    rw [← h.1]
    exact hj
  · simp only [e, if_false] at hj ⊢
    obtain ⟨h1, h2⟩ := px_clr_get hj
    have h3 := h.2 j w h1
    unfold px_clr
    cases k with
    | zero => exact h3
    | succ q =>
      simp only
      split
      · rename_i x e2
        rw [px_get_set]
        by_cases e4 : j = q
        · subst e4
          rw [h3] at e2
          cases e2
          exact absurd ⟨rfl, rfl⟩ h2
        · simp only [e4, if_false]; exact h3
      · rename_i x e2
        rw [px_get_set]
        by_cases e4 : j = q
        · subst e4
          rw [h3] at e2
          cases e2
          exact absurd ⟨rfl, rfl⟩ h2
        · simp only [e4, if_false]; exact h3
      · exact h3
theorem px_le_put2 {a b a' : List (Option Value)} {k : Nat} {v : Value} (h : px_le a b) (hp : px_put2 a k v = some a') : ∃ b', px_put2 b k v = some b' ∧ px_le a' b' := by
  have hlt := px_put2_lt hp
  unfold px_put2 at hp ⊢
  rw [← h.1, show Nat.blt (k + 1) a.length = true from Nat.ble_eq.mpr hlt] at *
  simp only [cond_true] at *
  cases hp
  refine ⟨_, rfl, by simp only [List.length_set, px_clr_len]; exact h.1, fun j w hj => ?_⟩
  rw [px_get_set] at hj ⊢
  by_cases e : j = k
  · subst e
    simp only [if_true, List.length_set, px_clr_len] at hj ⊢
    rw [← h.1]
    exact hj
  · simp only [e, if_false] at hj ⊢
    rw [px_get_set] at hj ⊢
    by_cases e1 : j = k + 1
    · subst e1; simp at hj
    · simp only [e1, if_false] at hj ⊢
      obtain ⟨h1, h2⟩ := px_clr_get hj
      have h3 := h.2 j w h1
      unfold px_clr
      cases k with
      | zero => exact h3
      | succ q =>
        simp only
        split
        · rename_i x e2
          rw [px_get_set]
          by_cases e4 : j = q
          · subst e4
            rw [h3] at e2
            cases e2
            exact absurd ⟨rfl, rfl⟩ h2
          · simp only [e4, if_false]; exact h3
        · rename_i x e2
          rw [px_get_set]
          by_cases e4 : j = q
          · subst e4
            rw [h3] at e2
            cases e2
            exact absurd ⟨rfl, rfl⟩ h2
          · simp only [e4, if_false]; exact h3
        · exact h3
set_option maxHeartbeats 4000000 in
theorem px_le_st {sc : Bool} {L : Nat} {xs : Nat → Int32} {i : px_I} {pc : Nat} {loc loc' : List (Option Value)} {st : List Value} {f' : px_F} {h h' : px_H} (hs : px_st sc L xs i pc loc st h = some (f', h')) (hl : px_le loc loc') : ∃ l2, px_st sc L xs i pc loc' st h = some ((f'.1, l2, f'.2.2), h') ∧ px_le f'.2.1 l2 := by
  obtain ⟨op, len, imm, a, b'⟩ := i
  cases op <;> first | (exfalso; cases hs; done) | (cases hs; exact ⟨loc', rfl, hl⟩) | skip
  case iload n => simp only [px_st] at hs ⊢; split at hs
                  · rename_i hg; cases hs; exact ⟨loc', by rw [hl.2 _ _ hg], hl⟩
                  · cases hs
  case iload_n n => simp only [px_st] at hs ⊢; split at hs
                    · rename_i hg; cases hs; exact ⟨loc', by rw [hl.2 _ _ hg], hl⟩
                    · cases hs
  case lload n => simp only [px_st] at hs ⊢; split at hs
                  · rename_i hg; cases hs; exact ⟨loc', by rw [hl.2 _ _ hg], hl⟩
                  · cases hs
  case lload_n n => simp only [px_st] at hs ⊢; split at hs
                    · rename_i hg; cases hs; exact ⟨loc', by rw [hl.2 _ _ hg], hl⟩
                    · cases hs
  case aload_n n => simp only [px_st] at hs ⊢; split at hs
                    · rename_i hg; cases hs; exact ⟨loc', by rw [hl.2 _ _ hg], hl⟩
                    · rename_i hg; cases hs; exact ⟨loc', by rw [hl.2 _ _ hg], hl⟩
                    · cases hs
  case iinc n o =>
    simp only [px_st] at hs ⊢
    split at hs
    · rename_i hg
      obtain ⟨l1, hp, e2⟩ := Option.map_eq_some_iff.mp hs
      cases e2
      obtain ⟨l2, h2, h3⟩ := px_le_put1 hl hp
      exact ⟨l2, by rw [hl.2 _ _ hg]; simp only; rw [h2]; rfl, h3⟩
    · cases hs
  case istore n =>
    simp only [px_st] at hs ⊢
    split at hs
    · obtain ⟨l1, hp, e2⟩ := Option.map_eq_some_iff.mp hs
      cases e2
      obtain ⟨l2, h2, h3⟩ := px_le_put1 hl hp
      exact ⟨l2, by simp only [h2]; rfl, h3⟩
    · cases hs
  case istore_n n =>
    simp only [px_st] at hs ⊢
    split at hs
    · obtain ⟨l1, hp, e2⟩ := Option.map_eq_some_iff.mp hs
      cases e2
      obtain ⟨l2, h2, h3⟩ := px_le_put1 hl hp
      exact ⟨l2, by simp only [h2]; rfl, h3⟩
    · cases hs
  case astore_n n =>
    simp only [px_st] at hs ⊢
    split at hs
    · obtain ⟨l1, hp, e2⟩ := Option.map_eq_some_iff.mp hs
      cases e2
      obtain ⟨l2, h2, h3⟩ := px_le_put1 hl hp
      exact ⟨l2, by simp only [h2]; rfl, h3⟩
    · cases hs
  case lstore n =>
    simp only [px_st] at hs ⊢
    split at hs
    · obtain ⟨l1, hp, e2⟩ := Option.map_eq_some_iff.mp hs
      cases e2
      obtain ⟨l2, h2, h3⟩ := px_le_put2 hl hp
      exact ⟨l2, by simp only [h2]; rfl, h3⟩
    · cases hs
  case lstore_n n =>
    simp only [px_st] at hs ⊢
    split at hs
    · obtain ⟨l1, hp, e2⟩ := Option.map_eq_some_iff.mp hs
      cases e2
      obtain ⟨l2, h2, h3⟩ := px_le_put2 hl hp
      exact ⟨l2, by simp only [h2]; rfl, h3⟩
    · cases hs
  case tableswitch df lo hi offs =>
    simp only [px_st] at hs ⊢
    split at hs
    · obtain ⟨t, e1, e2⟩ := Option.map_eq_some_iff.mp hs
      cases e2
      exact ⟨loc', by simp only [e1]; rfl, hl⟩
    · cases hs
  case ifCond cd o => cases cd <;> (simp only [px_st] at hs ⊢; split at hs <;> first | (cases hs; done) | (split at hs <;> (rename_i hc; cases hs; exact ⟨loc', by simp only [hc, if_true, if_false], hl⟩)))
  case if_icmp cd o => cases cd <;> (simp only [px_st] at hs ⊢; split at hs <;> first | (cases hs; done) | (split at hs <;> (rename_i hc; cases hs; exact ⟨loc', by simp only [hc, if_true, if_false], hl⟩)))
  case arraylength =>
    simp only [px_st] at hs ⊢
    split at hs
    · cases sc with
      | false => cases hs
      | true => cases hs; exact ⟨loc', rfl, hl⟩
    · cases hs
  case getfield idx =>
    simp only [px_st] at hs ⊢
    split at hs
    · split at hs
      · rename_i c' nn rf hc
        cases e1 : Nat.beq c' a with
        | false => rw [e1] at hs; cases hs
        | true =>
          rw [e1] at hs
          simp only [cond_true] at hs
          split at hs
          · split at hs
            · rename_i hr
              cases hs
              exact ⟨loc', by simp only [hc, e1, cond_true, hr], hl⟩
            · cases hs
          · cases hs
            refine ⟨loc', ?_, hl⟩
            simp only [hc, e1, cond_true]
      · cases hs
    · cases hs
  case putfield idx =>
    simp only [px_st] at hs ⊢
    split at hs
    · split at hs
      · rename_i c' nn rf hc
        cases e1 : Nat.beq c' a with
        | false => rw [e1] at hs; cases hs
        | true =>
          rw [e1] at hs
          simp only [cond_true] at hs
          split at hs
          · split at hs
            · rename_i hr
              cases hs
              exact ⟨loc', by simp only [hc, e1, cond_true, hr, if_true], hl⟩
            · cases hs
          · split at hs
            · cases hs
            · rename_i hr
              cases hs
              exact ⟨loc', by simp only [hc, e1, cond_true, hr, if_false], hl⟩
          · cases hs
      · cases hs
    · cases hs
  case iaload =>
    simp only [px_st] at hs ⊢
    split at hs
    · split at hs
      · rename_i hc
        split at hs
        · cases hs
        · rename_i hin
          cases hs
          exact ⟨loc', by simp only [hc, hin, if_false], hl⟩
      · cases hs
    · cases sc with
      | false => cases hs
      | true =>
        simp only [cond_true] at hs ⊢
        split at hs
        · cases hs
        · rename_i hin
          cases hs
          exact ⟨loc', by simp only [hin, if_false], hl⟩
    · cases hs
  all_goals (simp only [px_st, px_bin, px_binL] at hs ⊢)
  all_goals (repeat' (first | (cases hs; done) | (cases hs; exact ⟨loc', by first | rfl | simp_all, hl⟩) | split at hs))
theorem px_le_nx {M : px_M} {L : Nat} {xs : Nat → Int32} {pc : Nat} {loc loc' : List (Option Value)} {st : List Value} {h : px_H} {q : (px_F × px_H) ⊕ (Option Value ⊕ (Nat × List Value × List Value))} (hs : px_nx M L xs (pc, loc, st) h = some q) (hl : px_le loc loc') :
    (∃ f' h' l2, q = .inl (f', h') ∧ px_nx M L xs (pc, loc', st) h = some (.inl ((f'.1, l2, f'.2.2), h')) ∧ px_le f'.2.1 l2) ∨ (∃ r, q = .inr r ∧ px_nx M L xs (pc, loc', st) h = some (.inr r)) := by
  unfold px_nx at hs ⊢
  simp only at hs ⊢
  split at hs
  · cases hs
  · rename_i i hi
    obtain ⟨op, len, imm, a, b'⟩ := i
    simp only at hs ⊢
    split at hs
    · split at hs
      · rename_i x
        split at hs
        · rename_i e; cases hs; exact Or.inr ⟨_, rfl, by simp only [e]⟩
        · rename_i e
          split at hs
          · cases hs
          · rename_i e2; cases hs; exact Or.inr ⟨_, rfl, by simp only [e, e2, if_false]⟩
        · cases hs
      · cases hs
    · split at hs
      · split at hs
        · rename_i e; cases hs; exact Or.inr ⟨_, rfl, by simp only [e]⟩
        · cases hs
      · cases hs
    · split at hs
      · split at hs
        · rename_i e; cases hs; exact Or.inr ⟨_, rfl, by simp only [e]⟩
        · cases hs
      · cases hs
    · cases e : (Nat.ble b' st.length && Nat.ble (px_cs (st.drop b')) 8 && px_rcv h.1 imm (st.take b').reverse) with
      | false => rw [e] at hs; cases hs
      | true => rw [e] at hs; cases hs; exact Or.inr ⟨_, rfl, by simp only [e, cond_true]⟩
    · cases e : Nat.ble 1001 a with
      | true =>
        rw [e] at hs
        simp only [cond_true] at hs
        cases e2 : Nat.ble (px_cs st) 16 with
        | false => rw [e2] at hs; cases hs
        | true =>
          rw [e2] at hs
          simp only [cond_true] at hs
          obtain ⟨⟨st', h2⟩, e3, e4⟩ := Option.map_eq_some_iff.mp hs
          cases e4
          exact Or.inl ⟨_, _, loc', rfl, by simp only [e, e2, cond_true, e3]; rfl, hl⟩
      | false =>
        rw [e] at hs
        simp only [cond_false] at hs
        cases e2 : (Nat.ble b' st.length && Nat.ble (px_cs (st.drop b')) 8) with
        | false => rw [e2] at hs; cases hs
        | true => rw [e2] at hs; cases hs; exact Or.inr ⟨_, rfl, by simp only [e, e2, cond_true, cond_false]⟩
    · cases e : Nat.beq a 1000 with
      | true =>
        rw [e] at hs
        simp only [cond_true] at hs
        split at hs
        · rename_i r
          cases e2 : Nat.ble (px_cs r) 8 with
          | false => rw [e2] at hs; cases hs
          | true => rw [e2] at hs; cases hs; exact Or.inl ⟨_, _, loc', rfl, by simp only [e, e2, cond_true], hl⟩
        · cases hs
      | false =>
        rw [e] at hs
        simp only [cond_false] at hs
        cases e2 : (Nat.ble b' st.length && Nat.ble (px_cs (st.drop b')) 8 && px_hd (st.take b').reverse) with
        | false => rw [e2] at hs; cases hs
        | true => rw [e2] at hs; cases hs; exact Or.inr ⟨_, rfl, by simp only [e, e2, cond_true, cond_false]⟩
    · rename_i n1 n2 n3 n4 n5 n6
      obtain ⟨⟨f2, h2⟩, e3, e4⟩ := Option.map_eq_some_iff.mp hs
      cases e4
      obtain ⟨l2, e5, e6⟩ := px_le_st e3 hl
      refine Or.inl ⟨f2, h2, l2, rfl, ?_, e6⟩
      rw [e5]
      rfl
theorem px_le_run {L : Nat} {xs : Nat → Int32} : ∀ (n : Nat) {M : px_M} {pc : Nat} {loc loc' : List (Option Value)} {st : List Value} {h : px_H} {x : Option Value × px_H}, px_run px_T L xs n M (pc, loc, st) h = some x → px_le loc loc' → px_run px_T L xs n M (pc, loc', st) h = some x := by
  intro n
  induction n with
  | zero => intro M pc loc loc' st h x hr; cases hr
  | succ n ih =>
    intro M pc loc loc' st h x hr hl
    unfold px_run at hr ⊢
    split at hr
    · cases hr
    · rename_i f2 h2 e1
      rcases px_le_nx e1 hl with ⟨f', h', l2, e2, e3, e4⟩ | ⟨r, e2, e3⟩
      · cases e2
        rw [e3]
        exact ih hr e4
      · cases e2
    · rename_i r2 e1
      rcases px_le_nx e1 hl with ⟨f', h', l2, e2, e3, e4⟩ | ⟨r, e2, e3⟩
      · cases e2
      · cases e2
        rw [e3]
        exact hr
    · rename_i j as st2 e1
      rcases px_le_nx e1 hl with ⟨f', h', l2, e2, e3, e4⟩ | ⟨r, e2, e3⟩
      · cases e2
      · cases e2
        rw [e3]
        simp only
        split at hr
        · cases hr
        · rename_i M' e4
          cases e5 : px_ok M M' as with
          | false => rw [e5] at hr; cases hr
          | true =>
            rw [e5] at hr
            simp only [cond_true] at hr ⊢
            split at hr
            · cases hr
            · rename_i r2 h2 e6
              exact ih hr hl
def px_leB : List (Option Value) → List (Option Value) → Bool
  | [], [] => true
  | none :: a, _ :: b => px_leB a b
  | some x :: a, some y :: b => decide (x = y) && px_leB a b
  | _, _ => false
/-- each known local is one of the others' -/
def px_lle : List (Option Value) → List (Option Value) → Prop
  | [], [] => True
  | none :: a, _ :: b => px_lle a b
  | some x :: a, some y :: b => x = y ∧ px_lle a b
  | _, _ => False
theorem px_lle_le : ∀ (a b : List (Option Value)), px_lle a b → px_le a b
  | [], [], _ => ⟨rfl, fun k v h => by cases h⟩
  | none :: a, y :: b, h => by
    have ih := px_lle_le a b h
    refine ⟨by simp only [List.length_cons, ih.1], fun k v hk => ?_⟩
    cases k with
    | zero => cases hk
    | succ k => exact ih.2 k v hk
  | some x :: a, some y :: b, h => by
    obtain ⟨e, h⟩ := h
    subst e
    have ih := px_lle_le a b h
    refine ⟨by simp only [List.length_cons, ih.1], fun k v hk => ?_⟩
    cases k with
    | zero => exact hk
    | succ k => exact ih.2 k v hk
  | [], _ :: _, h => h.elim
  | some _ :: _, [], h => h.elim
  | none :: _, [], h => h.elim
  | some _ :: _, none :: _, h => h.elim
theorem px_W.drop {L : Nat} {xs : Nat → Int32} {M : px_M} {Q : Option Value → px_H → Prop} {pc : Nat} {loc loc' : List (Option Value)} {st : List Value} {h : px_H} (hl : px_lle loc loc') (k : px_W L xs M (pc, loc, st) h Q) : px_W L xs M (pc, loc', st) h Q := by
  obtain ⟨n, r, h', h1, h2⟩ := k
  exact ⟨n, r, h', px_le_run n h1 (px_lle_le _ _ hl), h2⟩
