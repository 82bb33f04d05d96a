/-! A RUN OF THE PURE MACHINE IS A RUN OF THE MACHINE -/
theorem px_cs_map (B0 b : Nat) (t : List Value) : ((t.map (px_v B0 b)).map fun v => v.category).sum = px_cs t := by
  induction t with
  | nil => rfl
  | cons a t ih => simp only [List.map_cons, List.sum_cons, px_cs, px_v_cat, ih]
/-- cells and slots only come -/
theorem px_ss_set {sh : px_S} {k c n : Nat} {rf rf' : List (Option Nat)} (hc : sh[k]? = some (c, n, rf)) : px_ss (sh.set k (c, n, rf')) = px_ss sh := by
  unfold px_ss
  congr 1
  rw [List.map_set]
  apply List.ext_getElem?
  intro j
  rw [List.getElem?_set]
  by_cases hj : k = j
  · subst hj
    simp only [List.getElem?_map, hc, Option.map_some, List.length_map, (List.getElem?_eq_some_iff.mp hc).1, if_true]
  · simp [hj]
def px_gr (h h' : px_H) : Prop := h.1.length ≤ h'.1.length ∧ px_ss h.1 ≤ px_ss h'.1
theorem px_gr.rf (h : px_H) : px_gr h h := ⟨Nat.le_refl _, Nat.le_refl _⟩
theorem px_gr.tr {h h' h'' : px_H} (a : px_gr h h') (b : px_gr h' h'') : px_gr h h'' := ⟨Nat.le_trans a.1 b.1, Nat.le_trans a.2 b.2⟩
theorem px_gr_bin {f : Int32 → Int32 → Int32} {pc : Nat} {loc : List (Option Value)} {st : List Value} {h h' : px_H} {f' : px_F} (hs : px_bin f pc loc st h = some (f', h')) : px_gr h h' := by
  unfold px_bin at hs
  split at hs <;> cases hs
  exact px_gr.rf _
theorem px_gr_binL {f : Int64 → Int64 → Int64} {pc : Nat} {loc : List (Option Value)} {st : List Value} {h h' : px_H} {f' : px_F} (hs : px_binL f pc loc st h = some (f', h')) : px_gr h h' := by
  unfold px_binL at hs
  split at hs <;> cases hs
  exact px_gr.rf _
theorem px_gr_map {α : Type} {o : Option α} {g : α → px_F} {h h' : px_H} {f' : px_F} (hs : (o.map fun x => (g x, h)) = some (f', h')) : px_gr h h' := by
  obtain ⟨x, -, e⟩ := Option.map_eq_some_iff.mp hs
  cases e
  exact px_gr.rf _
set_option maxHeartbeats 4000000 in
theorem px_gr_st {sc : Bool} {L : Nat} {xs : Nat → Int32} {i : px_I} {pc : Nat} {loc : List (Option Value)} {st : List Value} {f' : px_F} {h h' : px_H} (hs : px_st sc L xs i pc loc st h = some (f', h')) : px_gr h h' := by
  obtain ⟨op, len, imm, a, b'⟩ := i
  cases op <;> first | (exfalso; cases hs; done) | (cases hs; exact px_gr.rf _) | exact px_gr_bin hs | exact px_gr_binL hs | skip
  case newarray t =>
    simp only [px_st] at hs
    split at hs
    · split at hs
      · cases hs
      · cases hs
        exact ⟨by simp, by rw [px_ss_app]; omega⟩
    · cases hs
  case new t =>
    cases hs
    exact ⟨by simp, by rw [px_ss_app]; omega⟩
  case putfield idx =>
    simp only [px_st] at hs
    split at hs
    · split at hs
      · rename_i hc
        cases e1 : Nat.beq _ a with
        | false => rw [e1] at hs; cases hs
        | true =>
          rw [e1] at hs
          simp only [cond_true] at hs
          split at hs
          · split at hs
            · cases hs
              exact ⟨by simp, by rw [px_ss_set hc]; exact Nat.le_refl _⟩
            · cases hs
          · split at hs
            · cases hs
            · cases hs
              exact px_gr.rf _
          · cases hs
      · cases hs
    · cases hs
  case ifCond cd o => cases cd <;> (simp only [px_st] at hs; split at hs <;> first | (cases hs; done) | (split at hs <;> (cases hs; exact px_gr.rf _)))
  case if_icmp cd o => cases cd <;> (simp only [px_st] at hs; split at hs <;> first | (cases hs; done) | (split at hs <;> (cases hs; exact px_gr.rf _)))
  case getfield idx =>
    simp only [px_st] at hs
    split at hs
    · split at hs
      · cases e1 : Nat.beq _ a with
        | false => rw [e1] at hs; cases hs
        | true =>
          rw [e1] at hs
          simp only [cond_true] at hs
          split at hs
          · split at hs
            · cases hs
              exact px_gr.rf _
            · cases hs
          · cases hs
            exact px_gr.rf _
      · cases hs
    · cases hs
  case iaload =>
    simp only [px_st] at hs
    split at hs
    · split at hs
      · split at hs
        · cases hs
        · cases hs
          exact px_gr.rf _
      · cases hs
    · cases sc with
      | false => cases hs
      | true =>
        simp only [cond_true] at hs
        split at hs
        · cases hs
        · cases hs
          exact px_gr.rf _
    · cases hs
  case arraylength =>
    simp only [px_st] at hs
    split at hs
    · cases sc with
      | false => cases hs
      | true => cases hs; exact px_gr.rf _
    · cases hs
  all_goals (simp only [px_st] at hs; repeat' (first | (cases hs; done) | (cases hs; exact px_gr.rf _) | exact px_gr_map hs | split at hs))
theorem px_bl_sh {a : Nat} {st st' : List Value} {h h2 : px_H} (e3 : px_bl a st h = some (st', h2)) : h2.1 = h.1 := by
  unfold px_bl at e3
  cases e : Nat.beq a 1001 with
  | true =>
    rw [e] at e3
    simp only [cond_true] at e3
    unfold px_cp at e3
    split at e3
    · split at e3
      · split at e3
        · cases e3; rfl
        · cases e3
      · cases e3
    · cases e3
  | false =>
    rw [e] at e3
    simp only [cond_false] at e3
    unfold px_mx at e3
    split at e3
    · cases e3; rfl
    · cases e3
theorem px_gr_nx {M : px_M} {L : Nat} {xs : Nat → Int32} {f f' : px_F} {h h' : px_H} (hs : px_nx M L xs f h = some (.inl (f', h'))) : px_gr h h' := by
  unfold px_nx at hs
  split at hs
  · cases hs
  · rename_i i hi
    split at hs
    · split at hs
      · split at hs
        · cases hs
        · split at hs <;> cases hs
        · cases hs
      · cases hs
    · split at hs
      · split at hs <;> cases hs
      · cases hs
    · split at hs
      · split at hs <;> cases hs
      · cases hs
    · cases e : (Nat.ble i.2.2.2.2 f.2.2.length && Nat.ble (px_cs (f.2.2.drop i.2.2.2.2)) 8 && px_rcv h.1 i.2.2.1 (f.2.2.take i.2.2.2.2).reverse) <;> (rw [e] at hs; cases hs)
    · cases e : Nat.ble 1001 i.2.2.2.1 with
      | true =>
        rw [e] at hs
        simp only [cond_true] at hs
        cases e2 : Nat.ble (px_cs f.2.2) 16 with
        | false => rw [e2] at hs; cases hs
        | true =>
          rw [e2] at hs
          simp only [cond_true] at hs
          obtain ⟨⟨st', h2⟩, e3, e4⟩ := Option.map_eq_some_iff.mp hs
          cases e4
          have hlen := px_bl_sh e3
          exact ⟨by rw [hlen]; exact Nat.le_refl _, by rw [hlen]; exact Nat.le_refl _⟩
      | false =>
        rw [e] at hs
        simp only [cond_false] at hs
        cases e2 : (Nat.ble i.2.2.2.2 f.2.2.length && Nat.ble (px_cs (f.2.2.drop i.2.2.2.2)) 8) <;> (rw [e2] at hs; cases hs)
    · cases e : Nat.beq i.2.2.2.1 1000 with
      | true =>
        rw [e] at hs
        simp only [cond_true] at hs
        split at hs
        · rename_i r hr
          cases e2 : Nat.ble (px_cs r) 8 with
          | false => rw [e2] at hs; cases hs
          | true => rw [e2] at hs; cases hs; exact px_gr.rf _
        · cases hs
      | false =>
        rw [e] at hs
        simp only [cond_false] at hs
        cases e2 : (Nat.ble i.2.2.2.2 f.2.2.length && Nat.ble (px_cs (f.2.2.drop i.2.2.2.2)) 8 && px_hd (f.2.2.take i.2.2.2.2).reverse) <;> (rw [e2] at hs; cases hs)
    · obtain ⟨⟨f2, h2⟩, e3, e4⟩ := Option.map_eq_some_iff.mp hs
      cases e4
      exact px_gr_st e3
theorem px_gr_run {tb : Nat → Option px_M} {L : Nat} {xs : Nat → Int32} : ∀ (n : Nat) {M : px_M} {f : px_F} {h h' : px_H} {r : Option Value}, px_run tb L xs n M f h = some (r, h') → px_gr h h' := by
  intro n
  induction n with
  | zero => intro M f h h' r hs; cases hs
  | succ n ih =>
    intro M f h h' r hs
    unfold px_run at hs
    split at hs
    · cases hs
    · rename_i f2 h2 e
      exact (px_gr_nx e).tr (ih hs)
    · cases hs
      exact px_gr.rf _
    · rename_i j as st e
      split at hs
      · cases hs
      · rename_i M' e2
        cases e3 : px_ok M M' as with
        | false => rw [e3] at hs; cases hs
        | true =>
          rw [e3] at hs
          simp only [cond_true] at hs
          split at hs
          · cases hs
          · rename_i r2 h2 e4
            exact (ih e4).tr (ih hs)
