/-! a method answers a number of its kind -/
theorem cond_some {α : Type} {c : Bool} {a x : α} (h : (bif c then some a else none) = some x) : a = x := by
  cases c with
  | false => cases h
  | true => exact Option.some.inj h
theorem px_nx_v {M : px_M} {L : Nat} {xs : Nat → Int32} {f : px_F} {h : px_H} {r : Option Value} (e : px_nx M L xs f h = some (.inr (.inl r))) : (px_rt M = 1 → ∃ x, r = some (.int x)) ∧ (px_rt M = 3 → ∃ x, r = some (.long x)) := by
  unfold px_nx at e
  cases hi : px_at (px_is M) f.1 with
  | none => rw [hi] at e; cases e
  | some i =>
    rw [hi] at e
    simp only at e
    split at e
    · split at e
      · split at e
        · rename_i z1
          cases e
          exact ⟨fun _ => ⟨_, rfl⟩, fun z => absurd (z1.symm.trans z) (by decide)⟩
        · rename_i z1
          split at e
          · cases e
          · cases e
            exact ⟨fun z => absurd (z1.symm.trans z) (by decide), fun z => absurd (z1.symm.trans z) (by decide)⟩
        · cases e
      · cases e
    · split at e
      · split at e
        · rename_i z1
          cases e
          exact ⟨fun z => absurd (z1.symm.trans z) (by decide), fun _ => ⟨_, rfl⟩⟩
        · cases e
      · cases e
    · split at e
      · split at e
        · rename_i z1
          cases e
          exact ⟨fun z => absurd (z1.symm.trans z) (by decide), fun z => absurd (z1.symm.trans z) (by decide)⟩
        · cases e
      · cases e
    · have := cond_some e; cases this
    · cases hb : Nat.ble 1001 i.2.2.2.1 with
      | true =>
        rw [hb] at e
        simp only [cond_true] at e
        cases hc : Nat.ble (px_cs f.2.2) 16 with
        | true =>
          rw [hc] at e
          simp only [cond_true] at e
          cases hq : px_bl i.2.2.2.1 f.2.2 h with
          | none => rw [hq] at e; cases e
          | some q => rw [hq] at e; cases e
        | false => rw [hc] at e; cases e
      | false =>
        rw [hb] at e
        simp only [cond_false] at e
        have := cond_some e; cases this
    · cases hb : Nat.beq i.2.2.2.1 1000 with
      | true =>
        rw [hb] at e
        simp only [cond_true] at e
        split at e
        · have := cond_some e; cases this
        · cases e
      | false =>
        rw [hb] at e
        simp only [cond_false] at e
        have := cond_some e; cases this
    · cases hq : px_st (px_sc M) L xs i f.1 f.2.1 f.2.2 h with
      | none => rw [hq] at e; cases e
      | some q => rw [hq] at e; cases e
theorem px_run_v {L : Nat} {xs : Nat → Int32} : ∀ (n : Nat) {M : px_M} {f : px_F} {h : px_H} {r : Option Value} {h' : px_H}, px_run px_T L xs n M f h = some (r, h') → (px_rt M = 1 → ∃ x, r = some (.int x)) ∧ (px_rt M = 3 → ∃ x, r = some (.long x)) := by
  intro n
  induction n with
  | zero => intro M f h r h' hr; cases hr
  | succ n ih =>
    intro M f h r h' hr
    unfold px_run at hr
    split at hr
    · cases hr
    · exact ih hr
    · rename_i r2 e1
      cases hr
      exact px_nx_v e1
    · rename_i j as st e1
      split at hr
      · cases hr
      · rename_i M' e2
        cases e3 : px_ok M M' as with
        | false => rw [e3] at hr; cases hr
        | true =>
          rw [e3] at hr
          simp only [cond_true] at hr
          split at hr
          · cases hr
          · exact ih hr
theorem px_E_int {L : Nat} {xs : Nat → Int32} {M : px_M} {as : List Value} {σ σ' : px_Sg} {v : Value} (h : px_E L xs M as σ (some v) σ') (hr : px_rt M = 1) : ∃ x, v = .int x := by
  obtain ⟨n, r, h', h1, h2, h3⟩ := h
  obtain ⟨x, hx⟩ := (px_run_v n h1).1 hr
  rw [h2] at hx
  exact ⟨x, Option.some.inj hx⟩
theorem px_E_long {L : Nat} {xs : Nat → Int32} {M : px_M} {as : List Value} {σ σ' : px_Sg} {v : Value} (h : px_E L xs M as σ (some v) σ') (hr : px_rt M = 3) : ∃ x, v = .long x := by
  obtain ⟨n, r, h', h1, h2, h3⟩ := h
  obtain ⟨x, hx⟩ := (px_run_v n h1).2 hr
  rw [h2] at hx
  exact ⟨x, Option.some.inj hx⟩
set_option maxRecDepth 20000 in
theorem lw_part {L : Nat} {xs : Nat → Int32} {Q : Option Value → px_H → Prop} {σ : px_Sg} (hR : Rel σ) {j : Nat} (hj : 6 * j + 6 ≤ L) (hL : L ≤ 384)  (hc : ∀ τ, Rel τ → px_W L xs mL_law (1032, [some (.retAddr 0), some (.ref 0), some (.ref 40), some (.int (nI (6 * j)))], []) (sh0, τ) Q) : px_W L xs mL_law (172, [some (.retAddr 0), some (.ref 0), some (.ref 40), some (.int (nI (6 * j)))], []) (sh0, σ) Q := by
  obtain ⟨v, σ1, σ2, hX, hM, hR2⟩ := o_part (L := L) (xs := xs) hR (xs (6 * j + 1)) (xs (6 * j + 2)) (xs (6 * j + 3)) (xs (6 * j + 4))
  obtain ⟨x, rfl⟩ := px_E_int hX rfl
  refine px_W.run 5 (f' := (177, [some (.retAddr 0), some (.ref 0), some (.ref 40), some (.int (nI (6 * j)))], [.int ((nI (6 * j)) + 1), .retAddr 0, .ref 0])) (h' := (sh0, σ)) rfl ?_
  refine px_W.sld rfl rfl (i := 6 * j + 1) (nI_add _ 1) (by omega) (by omega) ?_
  refine px_W.run 4 (f' := (182, [some (.retAddr 0), some (.ref 0), some (.ref 40), some (.int (nI (6 * j)))], [.int ((nI (6 * j)) + 2), .retAddr 0, .int (xs (6 * j + 1)), .ref 0])) (h' := (sh0, σ)) rfl ?_
  refine px_W.sld rfl rfl (i := 6 * j + 2) (nI_add _ 2) (by omega) (by omega) ?_
  refine px_W.run 4 (f' := (187, [some (.retAddr 0), some (.ref 0), some (.ref 40), some (.int (nI (6 * j)))], [.int ((nI (6 * j)) + 3), .retAddr 0, .int (xs (6 * j + 2)), .int (xs (6 * j + 1)), .ref 0])) (h' := (sh0, σ)) rfl ?_
  refine px_W.sld rfl rfl (i := 6 * j + 3) (nI_add _ 3) (by omega) (by omega) ?_
  refine px_W.run 4 (f' := (192, [some (.retAddr 0), some (.ref 0), some (.ref 40), some (.int (nI (6 * j)))], [.int ((nI (6 * j)) + 4), .retAddr 0, .int (xs (6 * j + 3)), .int (xs (6 * j + 2)), .int (xs (6 * j + 1)), .ref 0])) (h' := (sh0, σ)) rfl ?_
  refine px_W.sld rfl rfl (i := 6 * j + 4) (nI_add _ 4) (by omega) (by omega) ?_
  refine px_W.cE (as := [.ref 0, .int (xs (6 * j + 1)), .int (xs (6 * j + 2)), .int (xs (6 * j + 3)), .int (xs (6 * j + 4))]) (st := []) (v := some (.int x)) (σ' := σ1) rfl rfl rfl (hX) ?_
  refine px_W.run 5 (f' := (201, [some (.retAddr 0), some (.ref 0), some (.ref 40), some (.int (nI (6 * j)))], [.int ((nI (6 * j)) + 1), .retAddr 0, .ref 40, .int x])) (h' := (sh0, σ1)) rfl ?_
  refine px_W.sld rfl rfl (i := 6 * j + 1) (nI_add _ 1) (by omega) (by omega) ?_
  refine px_W.run 4 (f' := (206, [some (.retAddr 0), some (.ref 0), some (.ref 40), some (.int (nI (6 * j)))], [.int ((nI (6 * j)) + 2), .retAddr 0, .int (xs (6 * j + 1)), .ref 40, .int x])) (h' := (sh0, σ1)) rfl ?_
  refine px_W.sld rfl rfl (i := 6 * j + 2) (nI_add _ 2) (by omega) (by omega) ?_
  refine px_W.run 4 (f' := (211, [some (.retAddr 0), some (.ref 0), some (.ref 40), some (.int (nI (6 * j)))], [.int ((nI (6 * j)) + 3), .retAddr 0, .int (xs (6 * j + 2)), .int (xs (6 * j + 1)), .ref 40, .int x])) (h' := (sh0, σ1)) rfl ?_
  refine px_W.sld rfl rfl (i := 6 * j + 3) (nI_add _ 3) (by omega) (by omega) ?_
  refine px_W.run 4 (f' := (216, [some (.retAddr 0), some (.ref 0), some (.ref 40), some (.int (nI (6 * j)))], [.int ((nI (6 * j)) + 4), .retAddr 0, .int (xs (6 * j + 3)), .int (xs (6 * j + 2)), .int (xs (6 * j + 1)), .ref 40, .int x])) (h' := (sh0, σ1)) rfl ?_
  refine px_W.sld rfl rfl (i := 6 * j + 4) (nI_add _ 4) (by omega) (by omega) ?_
  refine px_W.cE (as := [.ref 40, .int (xs (6 * j + 1)), .int (xs (6 * j + 2)), .int (xs (6 * j + 3)), .int (xs (6 * j + 4))]) (st := [.int x]) (v := some (.int x)) (σ' := σ2) rfl rfl rfl (hM) ?_
  refine px_W.icmp_eq rfl (fun c1 => ?_) (fun c1 => absurd (rfl) c1)
  exact hc σ2 hR2
set_option maxRecDepth 20000 in
theorem lw_needs {L : Nat} {xs : Nat → Int32} {Q : Option Value → px_H → Prop} {σ : px_Sg} (hR : Rel σ) {j : Nat} (hj : 6 * j + 6 ≤ L) (hL : L ≤ 384)  (hc : ∀ τ, Rel τ → px_W L xs mL_law (1032, [some (.retAddr 0), some (.ref 0), some (.ref 40), some (.int (nI (6 * j)))], []) (sh0, τ) Q) : px_W L xs mL_law (225, [some (.retAddr 0), some (.ref 0), some (.ref 40), some (.int (nI (6 * j)))], []) (sh0, σ) Q := by
  obtain ⟨v, σ1, σ2, hX, hM, hR2⟩ := o_needs (L := L) (xs := xs) hR (xs (6 * j + 1)) (xs (6 * j + 2))
  obtain ⟨x, rfl⟩ := px_E_int hX rfl
  refine px_W.run 5 (f' := (230, [some (.retAddr 0), some (.ref 0), some (.ref 40), some (.int (nI (6 * j)))], [.int ((nI (6 * j)) + 1), .retAddr 0, .ref 0])) (h' := (sh0, σ)) rfl ?_
  refine px_W.sld rfl rfl (i := 6 * j + 1) (nI_add _ 1) (by omega) (by omega) ?_
  refine px_W.run 4 (f' := (235, [some (.retAddr 0), some (.ref 0), some (.ref 40), some (.int (nI (6 * j)))], [.int ((nI (6 * j)) + 2), .retAddr 0, .int (xs (6 * j + 1)), .ref 0])) (h' := (sh0, σ)) rfl ?_
  refine px_W.sld rfl rfl (i := 6 * j + 2) (nI_add _ 2) (by omega) (by omega) ?_
  refine px_W.cE (as := [.ref 0, .int (xs (6 * j + 1)), .int (xs (6 * j + 2))]) (st := []) (v := some (.int x)) (σ' := σ1) rfl rfl rfl (hX) ?_
  refine px_W.run 5 (f' := (244, [some (.retAddr 0), some (.ref 0), some (.ref 40), some (.int (nI (6 * j)))], [.int ((nI (6 * j)) + 1), .retAddr 0, .ref 40, .int x])) (h' := (sh0, σ1)) rfl ?_
  refine px_W.sld rfl rfl (i := 6 * j + 1) (nI_add _ 1) (by omega) (by omega) ?_
  refine px_W.run 4 (f' := (249, [some (.retAddr 0), some (.ref 0), some (.ref 40), some (.int (nI (6 * j)))], [.int ((nI (6 * j)) + 2), .retAddr 0, .int (xs (6 * j + 1)), .ref 40, .int x])) (h' := (sh0, σ1)) rfl ?_
  refine px_W.sld rfl rfl (i := 6 * j + 2) (nI_add _ 2) (by omega) (by omega) ?_
  refine px_W.cE (as := [.ref 40, .int (xs (6 * j + 1)), .int (xs (6 * j + 2))]) (st := [.int x]) (v := some (.int x)) (σ' := σ2) rfl rfl rfl (hM) ?_
  refine px_W.icmp_eq rfl (fun c1 => ?_) (fun c1 => absurd (rfl) c1)
  exact hc σ2 hR2
set_option maxRecDepth 20000 in
theorem lw_say {L : Nat} {xs : Nat → Int32} {Q : Option Value → px_H → Prop} {σ : px_Sg} (hR : Rel σ) {j : Nat} (hj : 6 * j + 6 ≤ L) (hL : L ≤ 384)  (hc : ∀ τ, Rel τ → px_W L xs mL_law (1032, [some (.retAddr 0), some (.ref 0), some (.ref 40), some (.int (nI (6 * j)))], []) (sh0, τ) Q) : px_W L xs mL_law (258, [some (.retAddr 0), some (.ref 0), some (.ref 40), some (.int (nI (6 * j)))], []) (sh0, σ) Q := by
  obtain ⟨v, σ1, σ2, hX, hM, hR2⟩ := o_say (L := L) (xs := xs) hR (xs (6 * j + 1))
  obtain ⟨x, rfl⟩ := px_E_int hX rfl
  refine px_W.run 5 (f' := (263, [some (.retAddr 0), some (.ref 0), some (.ref 40), some (.int (nI (6 * j)))], [.int ((nI (6 * j)) + 1), .retAddr 0, .ref 0])) (h' := (sh0, σ)) rfl ?_
  refine px_W.sld rfl rfl (i := 6 * j + 1) (nI_add _ 1) (by omega) (by omega) ?_
  refine px_W.cE (as := [.ref 0, .int (xs (6 * j + 1))]) (st := []) (v := some (.int x)) (σ' := σ1) rfl rfl rfl (hX) ?_
  refine px_W.run 5 (f' := (272, [some (.retAddr 0), some (.ref 0), some (.ref 40), some (.int (nI (6 * j)))], [.int ((nI (6 * j)) + 1), .retAddr 0, .ref 40, .int x])) (h' := (sh0, σ1)) rfl ?_
  refine px_W.sld rfl rfl (i := 6 * j + 1) (nI_add _ 1) (by omega) (by omega) ?_
  refine px_W.cE (as := [.ref 40, .int (xs (6 * j + 1))]) (st := [.int x]) (v := some (.int x)) (σ' := σ2) rfl rfl rfl (hM) ?_
  refine px_W.icmp_eq rfl (fun c1 => ?_) (fun c1 => absurd (rfl) c1)
  exact hc σ2 hR2
set_option maxRecDepth 20000 in
theorem lw_wipe {L : Nat} {xs : Nat → Int32} {Q : Option Value → px_H → Prop} {σ : px_Sg} (hR : Rel σ) {j : Nat} (hj : 6 * j + 6 ≤ L) (hL : L ≤ 384)  (hc : ∀ τ, Rel τ → px_W L xs mL_law (1032, [some (.retAddr 0), some (.ref 0), some (.ref 40), some (.int (nI (6 * j)))], []) (sh0, τ) Q) : px_W L xs mL_law (281, [some (.retAddr 0), some (.ref 0), some (.ref 40), some (.int (nI (6 * j)))], []) (sh0, σ) Q := by
  obtain ⟨v, σ1, σ2, hX, hM, hR2⟩ := o_wipe (L := L) (xs := xs) hR 
  obtain ⟨x, rfl⟩ := px_E_int hX rfl
  refine px_W.run 1 (f' := (282, [some (.retAddr 0), some (.ref 0), some (.ref 40), some (.int (nI (6 * j)))], [.ref 0])) (h' := (sh0, σ)) rfl ?_
  refine px_W.cE (as := [.ref 0]) (st := []) (v := some (.int x)) (σ' := σ1) rfl rfl rfl (hX) ?_
  refine px_W.run 1 (f' := (286, [some (.retAddr 0), some (.ref 0), some (.ref 40), some (.int (nI (6 * j)))], [.ref 40, .int x])) (h' := (sh0, σ1)) rfl ?_
  refine px_W.cE (as := [.ref 40]) (st := [.int x]) (v := some (.int x)) (σ' := σ2) rfl rfl rfl (hM) ?_
  refine px_W.icmp_eq rfl (fun c1 => ?_) (fun c1 => absurd (rfl) c1)
  exact hc σ2 hR2
set_option maxRecDepth 20000 in
theorem lw_fault {L : Nat} {xs : Nat → Int32} {Q : Option Value → px_H → Prop} {σ : px_Sg} (hR : Rel σ) {j : Nat} (hj : 6 * j + 6 ≤ L) (hL : L ≤ 384)  (hc : ∀ τ, Rel τ → px_W L xs mL_law (1032, [some (.retAddr 0), some (.ref 0), some (.ref 40), some (.int (nI (6 * j)))], []) (sh0, τ) Q) : px_W L xs mL_law (294, [some (.retAddr 0), some (.ref 0), some (.ref 40), some (.int (nI (6 * j)))], []) (sh0, σ) Q := by
  obtain ⟨v, σ1, σ2, hX, hM, hR2⟩ := o_fault (L := L) (xs := xs) hR 
  obtain ⟨x, rfl⟩ := px_E_int hX rfl
  refine px_W.run 1 (f' := (295, [some (.retAddr 0), some (.ref 0), some (.ref 40), some (.int (nI (6 * j)))], [.ref 0])) (h' := (sh0, σ)) rfl ?_
  refine px_W.cE (as := [.ref 0]) (st := []) (v := some (.int x)) (σ' := σ1) rfl rfl rfl (hX) ?_
  refine px_W.run 1 (f' := (299, [some (.retAddr 0), some (.ref 0), some (.ref 40), some (.int (nI (6 * j)))], [.ref 40, .int x])) (h' := (sh0, σ1)) rfl ?_
  refine px_W.cE (as := [.ref 40]) (st := [.int x]) (v := some (.int x)) (σ' := σ2) rfl rfl rfl (hM) ?_
  refine px_W.icmp_eq rfl (fun c1 => ?_) (fun c1 => absurd (rfl) c1)
  exact hc σ2 hR2
set_option maxRecDepth 20000 in
theorem lw_judge {L : Nat} {xs : Nat → Int32} {Q : Option Value → px_H → Prop} {σ : px_Sg} (hR : Rel σ) {j : Nat} (hj : 6 * j + 6 ≤ L) (hL : L ≤ 384)  (hc : ∀ τ, Rel τ → px_W L xs mL_law (1032, [some (.retAddr 0), some (.ref 0), some (.ref 40), some (.int (nI (6 * j)))], []) (sh0, τ) Q) : px_W L xs mL_law (307, [some (.retAddr 0), some (.ref 0), some (.ref 40), some (.int (nI (6 * j)))], []) (sh0, σ) Q := by
  obtain ⟨v, σ1, σ2, hX, hM, hR2⟩ := o_judge (L := L) (xs := xs) hR (xs (6 * j + 1))
  obtain ⟨x, rfl⟩ := px_E_int hX rfl
  refine px_W.run 5 (f' := (312, [some (.retAddr 0), some (.ref 0), some (.ref 40), some (.int (nI (6 * j)))], [.int ((nI (6 * j)) + 1), .retAddr 0, .ref 0])) (h' := (sh0, σ)) rfl ?_
  refine px_W.sld rfl rfl (i := 6 * j + 1) (nI_add _ 1) (by omega) (by omega) ?_
  refine px_W.cE (as := [.ref 0, .int (xs (6 * j + 1))]) (st := []) (v := some (.int x)) (σ' := σ1) rfl rfl rfl (hX) ?_
  refine px_W.run 5 (f' := (321, [some (.retAddr 0), some (.ref 0), some (.ref 40), some (.int (nI (6 * j)))], [.int ((nI (6 * j)) + 1), .retAddr 0, .ref 40, .int x])) (h' := (sh0, σ1)) rfl ?_
  refine px_W.sld rfl rfl (i := 6 * j + 1) (nI_add _ 1) (by omega) (by omega) ?_
  refine px_W.cE (as := [.ref 40, .int (xs (6 * j + 1))]) (st := [.int x]) (v := some (.int x)) (σ' := σ2) rfl rfl rfl (hM) ?_
  refine px_W.icmp_eq rfl (fun c1 => ?_) (fun c1 => absurd (rfl) c1)
  exact hc σ2 hR2
set_option maxRecDepth 20000 in
theorem lw_done {L : Nat} {xs : Nat → Int32} {Q : Option Value → px_H → Prop} {σ : px_Sg} (hR : Rel σ) {j : Nat} (hj : 6 * j + 6 ≤ L) (hL : L ≤ 384)  (hc : ∀ τ, Rel τ → px_W L xs mL_law (1032, [some (.retAddr 0), some (.ref 0), some (.ref 40), some (.int (nI (6 * j)))], []) (sh0, τ) Q) : px_W L xs mL_law (330, [some (.retAddr 0), some (.ref 0), some (.ref 40), some (.int (nI (6 * j)))], []) (sh0, σ) Q := by
  obtain ⟨v, σ1, σ2, hX, hM, hR2⟩ := o_done (L := L) (xs := xs) hR 
  obtain ⟨x, rfl⟩ := px_E_int hX rfl
  refine px_W.run 1 (f' := (331, [some (.retAddr 0), some (.ref 0), some (.ref 40), some (.int (nI (6 * j)))], [.ref 0])) (h' := (sh0, σ)) rfl ?_
  refine px_W.cE (as := [.ref 0]) (st := []) (v := some (.int x)) (σ' := σ1) rfl rfl rfl (hX) ?_
  refine px_W.run 1 (f' := (335, [some (.retAddr 0), some (.ref 0), some (.ref 40), some (.int (nI (6 * j)))], [.ref 40, .int x])) (h' := (sh0, σ1)) rfl ?_
  refine px_W.cE (as := [.ref 40]) (st := [.int x]) (v := some (.int x)) (σ' := σ2) rfl rfl rfl (hM) ?_
  refine px_W.icmp_eq rfl (fun c1 => ?_) (fun c1 => absurd (rfl) c1)
  exact hc σ2 hR2
set_option maxRecDepth 20000 in
theorem lw_state {L : Nat} {xs : Nat → Int32} {Q : Option Value → px_H → Prop} {σ : px_Sg} (hR : Rel σ) {j : Nat} (hj : 6 * j + 6 ≤ L) (hL : L ≤ 384)  (hc : ∀ τ, Rel τ → px_W L xs mL_law (1032, [some (.retAddr 0), some (.ref 0), some (.ref 40), some (.int (nI (6 * j)))], []) (sh0, τ) Q) : px_W L xs mL_law (343, [some (.retAddr 0), some (.ref 0), some (.ref 40), some (.int (nI (6 * j)))], []) (sh0, σ) Q := by
  obtain ⟨v, σ1, σ2, hX, hM, hR2⟩ := o_state (L := L) (xs := xs) hR (xs (6 * j + 1))
  obtain ⟨x, rfl⟩ := px_E_int hX rfl
  refine px_W.run 5 (f' := (348, [some (.retAddr 0), some (.ref 0), some (.ref 40), some (.int (nI (6 * j)))], [.int ((nI (6 * j)) + 1), .retAddr 0, .ref 0])) (h' := (sh0, σ)) rfl ?_
  refine px_W.sld rfl rfl (i := 6 * j + 1) (nI_add _ 1) (by omega) (by omega) ?_
  refine px_W.cE (as := [.ref 0, .int (xs (6 * j + 1))]) (st := []) (v := some (.int x)) (σ' := σ1) rfl rfl rfl (hX) ?_
  refine px_W.run 5 (f' := (357, [some (.retAddr 0), some (.ref 0), some (.ref 40), some (.int (nI (6 * j)))], [.int ((nI (6 * j)) + 1), .retAddr 0, .ref 40, .int x])) (h' := (sh0, σ1)) rfl ?_
  refine px_W.sld rfl rfl (i := 6 * j + 1) (nI_add _ 1) (by omega) (by omega) ?_
  refine px_W.cE (as := [.ref 40, .int (xs (6 * j + 1))]) (st := [.int x]) (v := some (.int x)) (σ' := σ2) rfl rfl rfl (hM) ?_
  refine px_W.icmp_eq rfl (fun c1 => ?_) (fun c1 => absurd (rfl) c1)
  exact hc σ2 hR2
set_option maxRecDepth 20000 in
theorem lw_behind {L : Nat} {xs : Nat → Int32} {Q : Option Value → px_H → Prop} {σ : px_Sg} (hR : Rel σ) {j : Nat} (hj : 6 * j + 6 ≤ L) (hL : L ≤ 384)  (hc : ∀ τ, Rel τ → px_W L xs mL_law (1032, [some (.retAddr 0), some (.ref 0), some (.ref 40), some (.int (nI (6 * j)))], []) (sh0, τ) Q) : px_W L xs mL_law (366, [some (.retAddr 0), some (.ref 0), some (.ref 40), some (.int (nI (6 * j)))], []) (sh0, σ) Q := by
  obtain ⟨v, σ1, σ2, hX, hM, hR2⟩ := o_behind (L := L) (xs := xs) hR (xs (6 * j + 1))
  obtain ⟨x, rfl⟩ := px_E_int hX rfl
  refine px_W.run 5 (f' := (371, [some (.retAddr 0), some (.ref 0), some (.ref 40), some (.int (nI (6 * j)))], [.int ((nI (6 * j)) + 1), .retAddr 0, .ref 0])) (h' := (sh0, σ)) rfl ?_
  refine px_W.sld rfl rfl (i := 6 * j + 1) (nI_add _ 1) (by omega) (by omega) ?_
  refine px_W.cE (as := [.ref 0, .int (xs (6 * j + 1))]) (st := []) (v := some (.int x)) (σ' := σ1) rfl rfl rfl (hX) ?_
  refine px_W.run 5 (f' := (380, [some (.retAddr 0), some (.ref 0), some (.ref 40), some (.int (nI (6 * j)))], [.int ((nI (6 * j)) + 1), .retAddr 0, .ref 40, .int x])) (h' := (sh0, σ1)) rfl ?_
  refine px_W.sld rfl rfl (i := 6 * j + 1) (nI_add _ 1) (by omega) (by omega) ?_
  refine px_W.cE (as := [.ref 40, .int (xs (6 * j + 1))]) (st := [.int x]) (v := some (.int x)) (σ' := σ2) rfl rfl rfl (hM) ?_
  refine px_W.icmp_eq rfl (fun c1 => ?_) (fun c1 => absurd (rfl) c1)
  exact hc σ2 hR2
set_option maxRecDepth 20000 in
theorem lw_can {L : Nat} {xs : Nat → Int32} {Q : Option Value → px_H → Prop} {σ : px_Sg} (hR : Rel σ) {j : Nat} (hj : 6 * j + 6 ≤ L) (hL : L ≤ 384)  (hc : ∀ τ, Rel τ → px_W L xs mL_law (1032, [some (.retAddr 0), some (.ref 0), some (.ref 40), some (.int (nI (6 * j)))], []) (sh0, τ) Q) : px_W L xs mL_law (389, [some (.retAddr 0), some (.ref 0), some (.ref 40), some (.int (nI (6 * j)))], []) (sh0, σ) Q := by
  obtain ⟨v, σ1, σ2, hX, hM, hR2⟩ := o_can (L := L) (xs := xs) hR 
  obtain ⟨x, rfl⟩ := px_E_int hX rfl
  refine px_W.run 1 (f' := (390, [some (.retAddr 0), some (.ref 0), some (.ref 40), some (.int (nI (6 * j)))], [.ref 0])) (h' := (sh0, σ)) rfl ?_
  refine px_W.cE (as := [.ref 0]) (st := []) (v := some (.int x)) (σ' := σ1) rfl rfl rfl (hX) ?_
  refine px_W.run 1 (f' := (394, [some (.retAddr 0), some (.ref 0), some (.ref 40), some (.int (nI (6 * j)))], [.ref 40, .int x])) (h' := (sh0, σ1)) rfl ?_
  refine px_W.cE (as := [.ref 40]) (st := [.int x]) (v := some (.int x)) (σ' := σ2) rfl rfl rfl (hM) ?_
  refine px_W.icmp_eq rfl (fun c1 => ?_) (fun c1 => absurd (rfl) c1)
  exact hc σ2 hR2
set_option maxRecDepth 20000 in
theorem lw_lacks {L : Nat} {xs : Nat → Int32} {Q : Option Value → px_H → Prop} {σ : px_Sg} (hR : Rel σ) {j : Nat} (hj : 6 * j + 6 ≤ L) (hL : L ≤ 384)  (hc : ∀ τ, Rel τ → px_W L xs mL_law (1032, [some (.retAddr 0), some (.ref 0), some (.ref 40), some (.int (nI (6 * j)))], []) (sh0, τ) Q) : px_W L xs mL_law (402, [some (.retAddr 0), some (.ref 0), some (.ref 40), some (.int (nI (6 * j)))], []) (sh0, σ) Q := by
  obtain ⟨v, σ1, σ2, hX, hM, hR2⟩ := o_lacks (L := L) (xs := xs) hR (xs (6 * j + 1)) (xs (6 * j + 2))
  obtain ⟨x, rfl⟩ := px_E_int hX rfl
  refine px_W.run 5 (f' := (407, [some (.retAddr 0), some (.ref 0), some (.ref 40), some (.int (nI (6 * j)))], [.int ((nI (6 * j)) + 1), .retAddr 0, .ref 0])) (h' := (sh0, σ)) rfl ?_
  refine px_W.sld rfl rfl (i := 6 * j + 1) (nI_add _ 1) (by omega) (by omega) ?_
  refine px_W.run 4 (f' := (412, [some (.retAddr 0), some (.ref 0), some (.ref 40), some (.int (nI (6 * j)))], [.int ((nI (6 * j)) + 2), .retAddr 0, .int (xs (6 * j + 1)), .ref 0])) (h' := (sh0, σ)) rfl ?_
  refine px_W.sld rfl rfl (i := 6 * j + 2) (nI_add _ 2) (by omega) (by omega) ?_
  refine px_W.cE (as := [.ref 0, .int (xs (6 * j + 1)), .int (xs (6 * j + 2))]) (st := []) (v := some (.int x)) (σ' := σ1) rfl rfl rfl (hX) ?_
  refine px_W.run 5 (f' := (421, [some (.retAddr 0), some (.ref 0), some (.ref 40), some (.int (nI (6 * j)))], [.int ((nI (6 * j)) + 1), .retAddr 0, .ref 40, .int x])) (h' := (sh0, σ1)) rfl ?_
  refine px_W.sld rfl rfl (i := 6 * j + 1) (nI_add _ 1) (by omega) (by omega) ?_
  refine px_W.run 4 (f' := (426, [some (.retAddr 0), some (.ref 0), some (.ref 40), some (.int (nI (6 * j)))], [.int ((nI (6 * j)) + 2), .retAddr 0, .int (xs (6 * j + 1)), .ref 40, .int x])) (h' := (sh0, σ1)) rfl ?_
  refine px_W.sld rfl rfl (i := 6 * j + 2) (nI_add _ 2) (by omega) (by omega) ?_
  refine px_W.cE (as := [.ref 40, .int (xs (6 * j + 1)), .int (xs (6 * j + 2))]) (st := [.int x]) (v := some (.int x)) (σ' := σ2) rfl rfl rfl (hM) ?_
  refine px_W.icmp_eq rfl (fun c1 => ?_) (fun c1 => absurd (rfl) c1)
  exact hc σ2 hR2
set_option maxRecDepth 20000 in
theorem lw_plan {L : Nat} {xs : Nat → Int32} {Q : Option Value → px_H → Prop} {σ : px_Sg} (hR : Rel σ) {j : Nat} (hj : 6 * j + 6 ≤ L) (hL : L ≤ 384)  (hc : ∀ τ, Rel τ → px_W L xs mL_law (1032, [some (.retAddr 0), some (.ref 0), some (.ref 40), some (.int (nI (6 * j)))], []) (sh0, τ) Q) : px_W L xs mL_law (435, [some (.retAddr 0), some (.ref 0), some (.ref 40), some (.int (nI (6 * j)))], []) (sh0, σ) Q := by
  obtain ⟨v, σ1, σ2, hX, hM, hR2⟩ := o_plan (L := L) (xs := xs) hR (xs (6 * j + 1)) (xs (6 * j + 2)) (xs (6 * j + 3))
  obtain ⟨x, rfl⟩ := px_E_int hX rfl
  refine px_W.run 5 (f' := (440, [some (.retAddr 0), some (.ref 0), some (.ref 40), some (.int (nI (6 * j)))], [.int ((nI (6 * j)) + 1), .retAddr 0, .ref 0])) (h' := (sh0, σ)) rfl ?_
  refine px_W.sld rfl rfl (i := 6 * j + 1) (nI_add _ 1) (by omega) (by omega) ?_
  refine px_W.run 4 (f' := (445, [some (.retAddr 0), some (.ref 0), some (.ref 40), some (.int (nI (6 * j)))], [.int ((nI (6 * j)) + 2), .retAddr 0, .int (xs (6 * j + 1)), .ref 0])) (h' := (sh0, σ)) rfl ?_
  refine px_W.sld rfl rfl (i := 6 * j + 2) (nI_add _ 2) (by omega) (by omega) ?_
  refine px_W.run 4 (f' := (450, [some (.retAddr 0), some (.ref 0), some (.ref 40), some (.int (nI (6 * j)))], [.int ((nI (6 * j)) + 3), .retAddr 0, .int (xs (6 * j + 2)), .int (xs (6 * j + 1)), .ref 0])) (h' := (sh0, σ)) rfl ?_
  refine px_W.sld rfl rfl (i := 6 * j + 3) (nI_add _ 3) (by omega) (by omega) ?_
  refine px_W.cE (as := [.ref 0, .int (xs (6 * j + 1)), .int (xs (6 * j + 2)), .int (xs (6 * j + 3))]) (st := []) (v := some (.int x)) (σ' := σ1) rfl rfl rfl (hX) ?_
  refine px_W.run 5 (f' := (459, [some (.retAddr 0), some (.ref 0), some (.ref 40), some (.int (nI (6 * j)))], [.int ((nI (6 * j)) + 1), .retAddr 0, .ref 40, .int x])) (h' := (sh0, σ1)) rfl ?_
  refine px_W.sld rfl rfl (i := 6 * j + 1) (nI_add _ 1) (by omega) (by omega) ?_
  refine px_W.run 4 (f' := (464, [some (.retAddr 0), some (.ref 0), some (.ref 40), some (.int (nI (6 * j)))], [.int ((nI (6 * j)) + 2), .retAddr 0, .int (xs (6 * j + 1)), .ref 40, .int x])) (h' := (sh0, σ1)) rfl ?_
  refine px_W.sld rfl rfl (i := 6 * j + 2) (nI_add _ 2) (by omega) (by omega) ?_
  refine px_W.run 4 (f' := (469, [some (.retAddr 0), some (.ref 0), some (.ref 40), some (.int (nI (6 * j)))], [.int ((nI (6 * j)) + 3), .retAddr 0, .int (xs (6 * j + 2)), .int (xs (6 * j + 1)), .ref 40, .int x])) (h' := (sh0, σ1)) rfl ?_
  refine px_W.sld rfl rfl (i := 6 * j + 3) (nI_add _ 3) (by omega) (by omega) ?_
  refine px_W.cE (as := [.ref 40, .int (xs (6 * j + 1)), .int (xs (6 * j + 2)), .int (xs (6 * j + 3))]) (st := [.int x]) (v := some (.int x)) (σ' := σ2) rfl rfl rfl (hM) ?_
  refine px_W.icmp_eq rfl (fun c1 => ?_) (fun c1 => absurd (rfl) c1)
  exact hc σ2 hR2
set_option maxRecDepth 20000 in
theorem lw_orders {L : Nat} {xs : Nat → Int32} {Q : Option Value → px_H → Prop} {σ : px_Sg} (hR : Rel σ) {j : Nat} (hj : 6 * j + 6 ≤ L) (hL : L ≤ 384)  (hc : ∀ τ, Rel τ → px_W L xs mL_law (1032, [some (.retAddr 0), some (.ref 0), some (.ref 40), some (.int (nI (6 * j)))], []) (sh0, τ) Q) : px_W L xs mL_law (478, [some (.retAddr 0), some (.ref 0), some (.ref 40), some (.int (nI (6 * j)))], []) (sh0, σ) Q := by
  obtain ⟨v, σ1, σ2, hX, hM, hR2⟩ := o_orders (L := L) (xs := xs) hR 
  obtain ⟨x, rfl⟩ := px_E_int hX rfl
  refine px_W.run 1 (f' := (479, [some (.retAddr 0), some (.ref 0), some (.ref 40), some (.int (nI (6 * j)))], [.ref 0])) (h' := (sh0, σ)) rfl ?_
  refine px_W.cE (as := [.ref 0]) (st := []) (v := some (.int x)) (σ' := σ1) rfl rfl rfl (hX) ?_
  refine px_W.run 1 (f' := (483, [some (.retAddr 0), some (.ref 0), some (.ref 40), some (.int (nI (6 * j)))], [.ref 40, .int x])) (h' := (sh0, σ1)) rfl ?_
  refine px_W.cE (as := [.ref 40]) (st := [.int x]) (v := some (.int x)) (σ' := σ2) rfl rfl rfl (hM) ?_
  refine px_W.icmp_eq rfl (fun c1 => ?_) (fun c1 => absurd (rfl) c1)
  exact hc σ2 hR2
set_option maxRecDepth 20000 in
theorem lw_bar {L : Nat} {xs : Nat → Int32} {Q : Option Value → px_H → Prop} {σ : px_Sg} (hR : Rel σ) {j : Nat} (hj : 6 * j + 6 ≤ L) (hL : L ≤ 384)  (hc : ∀ τ, Rel τ → px_W L xs mL_law (1032, [some (.retAddr 0), some (.ref 0), some (.ref 40), some (.int (nI (6 * j)))], []) (sh0, τ) Q) : px_W L xs mL_law (491, [some (.retAddr 0), some (.ref 0), some (.ref 40), some (.int (nI (6 * j)))], []) (sh0, σ) Q := by
  obtain ⟨v, σ1, σ2, hX, hM, hR2⟩ := o_bar (L := L) (xs := xs) hR (xs (6 * j + 1)) (xs (6 * j + 2))
  obtain ⟨x, rfl⟩ := px_E_int hX rfl
  refine px_W.run 5 (f' := (496, [some (.retAddr 0), some (.ref 0), some (.ref 40), some (.int (nI (6 * j)))], [.int ((nI (6 * j)) + 1), .retAddr 0, .ref 0])) (h' := (sh0, σ)) rfl ?_
  refine px_W.sld rfl rfl (i := 6 * j + 1) (nI_add _ 1) (by omega) (by omega) ?_
  refine px_W.run 4 (f' := (501, [some (.retAddr 0), some (.ref 0), some (.ref 40), some (.int (nI (6 * j)))], [.int ((nI (6 * j)) + 2), .retAddr 0, .int (xs (6 * j + 1)), .ref 0])) (h' := (sh0, σ)) rfl ?_
  refine px_W.sld rfl rfl (i := 6 * j + 2) (nI_add _ 2) (by omega) (by omega) ?_
  refine px_W.cE (as := [.ref 0, .int (xs (6 * j + 1)), .int (xs (6 * j + 2))]) (st := []) (v := some (.int x)) (σ' := σ1) rfl rfl rfl (hX) ?_
  refine px_W.run 5 (f' := (510, [some (.retAddr 0), some (.ref 0), some (.ref 40), some (.int (nI (6 * j)))], [.int ((nI (6 * j)) + 1), .retAddr 0, .ref 40, .int x])) (h' := (sh0, σ1)) rfl ?_
  refine px_W.sld rfl rfl (i := 6 * j + 1) (nI_add _ 1) (by omega) (by omega) ?_
  refine px_W.run 4 (f' := (515, [some (.retAddr 0), some (.ref 0), some (.ref 40), some (.int (nI (6 * j)))], [.int ((nI (6 * j)) + 2), .retAddr 0, .int (xs (6 * j + 1)), .ref 40, .int x])) (h' := (sh0, σ1)) rfl ?_
  refine px_W.sld rfl rfl (i := 6 * j + 2) (nI_add _ 2) (by omega) (by omega) ?_
  refine px_W.cE (as := [.ref 40, .int (xs (6 * j + 1)), .int (xs (6 * j + 2))]) (st := [.int x]) (v := some (.int x)) (σ' := σ2) rfl rfl rfl (hM) ?_
  refine px_W.icmp_eq rfl (fun c1 => ?_) (fun c1 => absurd (rfl) c1)
  exact hc σ2 hR2
set_option maxRecDepth 20000 in
theorem lw_falls {L : Nat} {xs : Nat → Int32} {Q : Option Value → px_H → Prop} {σ : px_Sg} (hR : Rel σ) {j : Nat} (hj : 6 * j + 6 ≤ L) (hL : L ≤ 384)  (hc : ∀ τ, Rel τ → px_W L xs mL_law (1032, [some (.retAddr 0), some (.ref 0), some (.ref 40), some (.int (nI (6 * j)))], []) (sh0, τ) Q) : px_W L xs mL_law (524, [some (.retAddr 0), some (.ref 0), some (.ref 40), some (.int (nI (6 * j)))], []) (sh0, σ) Q := by
  obtain ⟨v, σ1, σ2, hX, hM, hR2⟩ := o_falls (L := L) (xs := xs) hR (xs (6 * j + 1)) (xs (6 * j + 2))
  obtain ⟨x, rfl⟩ := px_E_int hX rfl
  refine px_W.run 5 (f' := (529, [some (.retAddr 0), some (.ref 0), some (.ref 40), some (.int (nI (6 * j)))], [.int ((nI (6 * j)) + 1), .retAddr 0, .ref 0])) (h' := (sh0, σ)) rfl ?_
  refine px_W.sld rfl rfl (i := 6 * j + 1) (nI_add _ 1) (by omega) (by omega) ?_
  refine px_W.run 4 (f' := (534, [some (.retAddr 0), some (.ref 0), some (.ref 40), some (.int (nI (6 * j)))], [.int ((nI (6 * j)) + 2), .retAddr 0, .int (xs (6 * j + 1)), .ref 0])) (h' := (sh0, σ)) rfl ?_
  refine px_W.sld rfl rfl (i := 6 * j + 2) (nI_add _ 2) (by omega) (by omega) ?_
  refine px_W.cE (as := [.ref 0, .int (xs (6 * j + 1)), .int (xs (6 * j + 2))]) (st := []) (v := some (.int x)) (σ' := σ1) rfl rfl rfl (hX) ?_
  refine px_W.run 5 (f' := (543, [some (.retAddr 0), some (.ref 0), some (.ref 40), some (.int (nI (6 * j)))], [.int ((nI (6 * j)) + 1), .retAddr 0, .ref 40, .int x])) (h' := (sh0, σ1)) rfl ?_
  refine px_W.sld rfl rfl (i := 6 * j + 1) (nI_add _ 1) (by omega) (by omega) ?_
  refine px_W.run 4 (f' := (548, [some (.retAddr 0), some (.ref 0), some (.ref 40), some (.int (nI (6 * j)))], [.int ((nI (6 * j)) + 2), .retAddr 0, .int (xs (6 * j + 1)), .ref 40, .int x])) (h' := (sh0, σ1)) rfl ?_
  refine px_W.sld rfl rfl (i := 6 * j + 2) (nI_add _ 2) (by omega) (by omega) ?_
  refine px_W.cE (as := [.ref 40, .int (xs (6 * j + 1)), .int (xs (6 * j + 2))]) (st := [.int x]) (v := some (.int x)) (σ' := σ2) rfl rfl rfl (hM) ?_
  refine px_W.icmp_eq rfl (fun c1 => ?_) (fun c1 => absurd (rfl) c1)
  exact hc σ2 hR2
set_option maxRecDepth 20000 in
theorem lw_alone {L : Nat} {xs : Nat → Int32} {Q : Option Value → px_H → Prop} {σ : px_Sg} (hR : Rel σ) {j : Nat} (hj : 6 * j + 6 ≤ L) (hL : L ≤ 384)  (hc : ∀ τ, Rel τ → px_W L xs mL_law (1032, [some (.retAddr 0), some (.ref 0), some (.ref 40), some (.int (nI (6 * j)))], []) (sh0, τ) Q) : px_W L xs mL_law (557, [some (.retAddr 0), some (.ref 0), some (.ref 40), some (.int (nI (6 * j)))], []) (sh0, σ) Q := by
  obtain ⟨v, σ1, σ2, hX, hM, hR2⟩ := o_alone (L := L) (xs := xs) hR (xs (6 * j + 1))
  obtain ⟨x, rfl⟩ := px_E_int hX rfl
  refine px_W.run 5 (f' := (562, [some (.retAddr 0), some (.ref 0), some (.ref 40), some (.int (nI (6 * j)))], [.int ((nI (6 * j)) + 1), .retAddr 0, .ref 0])) (h' := (sh0, σ)) rfl ?_
  refine px_W.sld rfl rfl (i := 6 * j + 1) (nI_add _ 1) (by omega) (by omega) ?_
  refine px_W.cE (as := [.ref 0, .int (xs (6 * j + 1))]) (st := []) (v := some (.int x)) (σ' := σ1) rfl rfl rfl (hX) ?_
  refine px_W.run 5 (f' := (571, [some (.retAddr 0), some (.ref 0), some (.ref 40), some (.int (nI (6 * j)))], [.int ((nI (6 * j)) + 1), .retAddr 0, .ref 40, .int x])) (h' := (sh0, σ1)) rfl ?_
  refine px_W.sld rfl rfl (i := 6 * j + 1) (nI_add _ 1) (by omega) (by omega) ?_
  refine px_W.cE (as := [.ref 40, .int (xs (6 * j + 1))]) (st := [.int x]) (v := some (.int x)) (σ' := σ2) rfl rfl rfl (hM) ?_
  refine px_W.icmp_eq rfl (fun c1 => ?_) (fun c1 => absurd (rfl) c1)
  exact hc σ2 hR2
set_option maxRecDepth 20000 in
theorem lw_guard {L : Nat} {xs : Nat → Int32} {Q : Option Value → px_H → Prop} {σ : px_Sg} (hR : Rel σ) {j : Nat} (hj : 6 * j + 6 ≤ L) (hL : L ≤ 384)  (hc : ∀ τ, Rel τ → px_W L xs mL_law (1032, [some (.retAddr 0), some (.ref 0), some (.ref 40), some (.int (nI (6 * j)))], []) (sh0, τ) Q) : px_W L xs mL_law (580, [some (.retAddr 0), some (.ref 0), some (.ref 40), some (.int (nI (6 * j)))], []) (sh0, σ) Q := by
  obtain ⟨v, σ1, σ2, hX, hM, hR2⟩ := o_guard (L := L) (xs := xs) hR (xs (6 * j + 1)) (xs (6 * j + 2))
  obtain ⟨x, rfl⟩ := px_E_int hX rfl
  refine px_W.run 5 (f' := (585, [some (.retAddr 0), some (.ref 0), some (.ref 40), some (.int (nI (6 * j)))], [.int ((nI (6 * j)) + 1), .retAddr 0, .ref 0])) (h' := (sh0, σ)) rfl ?_
  refine px_W.sld rfl rfl (i := 6 * j + 1) (nI_add _ 1) (by omega) (by omega) ?_
  refine px_W.run 4 (f' := (590, [some (.retAddr 0), some (.ref 0), some (.ref 40), some (.int (nI (6 * j)))], [.int ((nI (6 * j)) + 2), .retAddr 0, .int (xs (6 * j + 1)), .ref 0])) (h' := (sh0, σ)) rfl ?_
  refine px_W.sld rfl rfl (i := 6 * j + 2) (nI_add _ 2) (by omega) (by omega) ?_
  refine px_W.cE (as := [.ref 0, .int (xs (6 * j + 1)), .int (xs (6 * j + 2))]) (st := []) (v := some (.int x)) (σ' := σ1) rfl rfl rfl (hX) ?_
  refine px_W.run 5 (f' := (599, [some (.retAddr 0), some (.ref 0), some (.ref 40), some (.int (nI (6 * j)))], [.int ((nI (6 * j)) + 1), .retAddr 0, .ref 40, .int x])) (h' := (sh0, σ1)) rfl ?_
  refine px_W.sld rfl rfl (i := 6 * j + 1) (nI_add _ 1) (by omega) (by omega) ?_
  refine px_W.run 4 (f' := (604, [some (.retAddr 0), some (.ref 0), some (.ref 40), some (.int (nI (6 * j)))], [.int ((nI (6 * j)) + 2), .retAddr 0, .int (xs (6 * j + 1)), .ref 40, .int x])) (h' := (sh0, σ1)) rfl ?_
  refine px_W.sld rfl rfl (i := 6 * j + 2) (nI_add _ 2) (by omega) (by omega) ?_
  refine px_W.cE (as := [.ref 40, .int (xs (6 * j + 1)), .int (xs (6 * j + 2))]) (st := [.int x]) (v := some (.int x)) (σ' := σ2) rfl rfl rfl (hM) ?_
  refine px_W.icmp_eq rfl (fun c1 => ?_) (fun c1 => absurd (rfl) c1)
  exact hc σ2 hR2
set_option maxRecDepth 20000 in
theorem lw_seen0 {L : Nat} {xs : Nat → Int32} {Q : Option Value → px_H → Prop} {σ : px_Sg} (hR : Rel σ) {j : Nat} (hj : 6 * j + 6 ≤ L) (hL : L ≤ 384) (hz : xs (6 * j + 3) = 0) (hc : ∀ τ, Rel τ → px_W L xs mL_law (1032, [some (.retAddr 0), some (.ref 0), some (.ref 40), some (.int (nI (6 * j)))], []) (sh0, τ) Q) : px_W L xs mL_law (613, [some (.retAddr 0), some (.ref 0), some (.ref 40), some (.int (nI (6 * j)))], []) (sh0, σ) Q := by
  obtain ⟨v, σ1, σ2, hX, hM, hR2⟩ := o_seen (L := L) (xs := xs) hR (xs (6 * j + 1)) (xs (6 * j + 2)) 0 (Or.inl rfl)
  obtain ⟨x, rfl⟩ := px_E_int hX rfl
  refine px_W.run 5 (f' := (618, [some (.retAddr 0), some (.ref 0), some (.ref 40), some (.int (nI (6 * j)))], [.int ((nI (6 * j)) + 1), .retAddr 0, .ref 0])) (h' := (sh0, σ)) rfl ?_
  refine px_W.sld rfl rfl (i := 6 * j + 1) (nI_add _ 1) (by omega) (by omega) ?_
  refine px_W.run 4 (f' := (623, [some (.retAddr 0), some (.ref 0), some (.ref 40), some (.int (nI (6 * j)))], [.int ((nI (6 * j)) + 2), .retAddr 0, .int (xs (6 * j + 1)), .ref 0])) (h' := (sh0, σ)) rfl ?_
  refine px_W.sld rfl rfl (i := 6 * j + 2) (nI_add _ 2) (by omega) (by omega) ?_
  refine px_W.run 4 (f' := (628, [some (.retAddr 0), some (.ref 0), some (.ref 40), some (.int (nI (6 * j)))], [.int ((nI (6 * j)) + 3), .retAddr 0, .int (xs (6 * j + 2)), .int (xs (6 * j + 1)), .ref 0])) (h' := (sh0, σ)) rfl ?_
  refine px_W.sld rfl rfl (i := 6 * j + 3) (nI_add _ 3) (by omega) (by omega) ?_
  refine px_W.if_eq rfl (fun c1 => ?_) (fun c1 => absurd (hz) c1)
  refine px_W.run 1 (f' := (637, [some (.retAddr 0), some (.ref 0), some (.ref 40), some (.int (nI (6 * j)))], [.int 0, .int (xs (6 * j + 2)), .int (xs (6 * j + 1)), .ref 0])) (h' := (sh0, σ)) rfl ?_
  refine px_W.cE (as := [.ref 0, .int (xs (6 * j + 1)), .int (xs (6 * j + 2)), .int 0]) (st := []) (v := some (.int x)) (σ' := σ1) rfl rfl rfl (hX) ?_
  refine px_W.run 5 (f' := (645, [some (.retAddr 0), some (.ref 0), some (.ref 40), some (.int (nI (6 * j)))], [.int ((nI (6 * j)) + 1), .retAddr 0, .ref 40, .int x])) (h' := (sh0, σ1)) rfl ?_
  refine px_W.sld rfl rfl (i := 6 * j + 1) (nI_add _ 1) (by omega) (by omega) ?_
  refine px_W.run 4 (f' := (650, [some (.retAddr 0), some (.ref 0), some (.ref 40), some (.int (nI (6 * j)))], [.int ((nI (6 * j)) + 2), .retAddr 0, .int (xs (6 * j + 1)), .ref 40, .int x])) (h' := (sh0, σ1)) rfl ?_
  refine px_W.sld rfl rfl (i := 6 * j + 2) (nI_add _ 2) (by omega) (by omega) ?_
  refine px_W.run 4 (f' := (655, [some (.retAddr 0), some (.ref 0), some (.ref 40), some (.int (nI (6 * j)))], [.int ((nI (6 * j)) + 3), .retAddr 0, .int (xs (6 * j + 2)), .int (xs (6 * j + 1)), .ref 40, .int x])) (h' := (sh0, σ1)) rfl ?_
  refine px_W.sld rfl rfl (i := 6 * j + 3) (nI_add _ 3) (by omega) (by omega) ?_
  refine px_W.if_eq rfl (fun c2 => ?_) (fun c2 => absurd (hz) c2)
  refine px_W.run 1 (f' := (664, [some (.retAddr 0), some (.ref 0), some (.ref 40), some (.int (nI (6 * j)))], [.int 0, .int (xs (6 * j + 2)), .int (xs (6 * j + 1)), .ref 40, .int x])) (h' := (sh0, σ1)) rfl ?_
  refine px_W.cE (as := [.ref 40, .int (xs (6 * j + 1)), .int (xs (6 * j + 2)), .int 0]) (st := [.int x]) (v := some (.int x)) (σ' := σ2) rfl rfl rfl (hM) ?_
  refine px_W.icmp_eq rfl (fun c3 => ?_) (fun c3 => absurd (rfl) c3)
  exact hc σ2 hR2
set_option maxRecDepth 20000 in
theorem lw_seen1 {L : Nat} {xs : Nat → Int32} {Q : Option Value → px_H → Prop} {σ : px_Sg} (hR : Rel σ) {j : Nat} (hj : 6 * j + 6 ≤ L) (hL : L ≤ 384) (hz : ¬ xs (6 * j + 3) = 0) (hc : ∀ τ, Rel τ → px_W L xs mL_law (1032, [some (.retAddr 0), some (.ref 0), some (.ref 40), some (.int (nI (6 * j)))], []) (sh0, τ) Q) : px_W L xs mL_law (613, [some (.retAddr 0), some (.ref 0), some (.ref 40), some (.int (nI (6 * j)))], []) (sh0, σ) Q := by
  obtain ⟨v, σ1, σ2, hX, hM, hR2⟩ := o_seen (L := L) (xs := xs) hR (xs (6 * j + 1)) (xs (6 * j + 2)) 1 (Or.inr rfl)
  obtain ⟨x, rfl⟩ := px_E_int hX rfl
  refine px_W.run 5 (f' := (618, [some (.retAddr 0), some (.ref 0), some (.ref 40), some (.int (nI (6 * j)))], [.int ((nI (6 * j)) + 1), .retAddr 0, .ref 0])) (h' := (sh0, σ)) rfl ?_
  refine px_W.sld rfl rfl (i := 6 * j + 1) (nI_add _ 1) (by omega) (by omega) ?_
  refine px_W.run 4 (f' := (623, [some (.retAddr 0), some (.ref 0), some (.ref 40), some (.int (nI (6 * j)))], [.int ((nI (6 * j)) + 2), .retAddr 0, .int (xs (6 * j + 1)), .ref 0])) (h' := (sh0, σ)) rfl ?_
  refine px_W.sld rfl rfl (i := 6 * j + 2) (nI_add _ 2) (by omega) (by omega) ?_
  refine px_W.run 4 (f' := (628, [some (.retAddr 0), some (.ref 0), some (.ref 40), some (.int (nI (6 * j)))], [.int ((nI (6 * j)) + 3), .retAddr 0, .int (xs (6 * j + 2)), .int (xs (6 * j + 1)), .ref 0])) (h' := (sh0, σ)) rfl ?_
  refine px_W.sld rfl rfl (i := 6 * j + 3) (nI_add _ 3) (by omega) (by omega) ?_
  refine px_W.if_eq rfl (fun c1 => absurd c1 (hz)) (fun c1 => ?_)
  refine px_W.run 2 (f' := (637, [some (.retAddr 0), some (.ref 0), some (.ref 40), some (.int (nI (6 * j)))], [.int 1, .int (xs (6 * j + 2)), .int (xs (6 * j + 1)), .ref 0])) (h' := (sh0, σ)) rfl ?_
  refine px_W.cE (as := [.ref 0, .int (xs (6 * j + 1)), .int (xs (6 * j + 2)), .int 1]) (st := []) (v := some (.int x)) (σ' := σ1) rfl rfl rfl (hX) ?_
  refine px_W.run 5 (f' := (645, [some (.retAddr 0), some (.ref 0), some (.ref 40), some (.int (nI (6 * j)))], [.int ((nI (6 * j)) + 1), .retAddr 0, .ref 40, .int x])) (h' := (sh0, σ1)) rfl ?_
  refine px_W.sld rfl rfl (i := 6 * j + 1) (nI_add _ 1) (by omega) (by omega) ?_
  refine px_W.run 4 (f' := (650, [some (.retAddr 0), some (.ref 0), some (.ref 40), some (.int (nI (6 * j)))], [.int ((nI (6 * j)) + 2), .retAddr 0, .int (xs (6 * j + 1)), .ref 40, .int x])) (h' := (sh0, σ1)) rfl ?_
  refine px_W.sld rfl rfl (i := 6 * j + 2) (nI_add _ 2) (by omega) (by omega) ?_
  refine px_W.run 4 (f' := (655, [some (.retAddr 0), some (.ref 0), some (.ref 40), some (.int (nI (6 * j)))], [.int ((nI (6 * j)) + 3), .retAddr 0, .int (xs (6 * j + 2)), .int (xs (6 * j + 1)), .ref 40, .int x])) (h' := (sh0, σ1)) rfl ?_
  refine px_W.sld rfl rfl (i := 6 * j + 3) (nI_add _ 3) (by omega) (by omega) ?_
  refine px_W.if_eq rfl (fun c2 => absurd c2 (hz)) (fun c2 => ?_)
  refine px_W.run 2 (f' := (664, [some (.retAddr 0), some (.ref 0), some (.ref 40), some (.int (nI (6 * j)))], [.int 1, .int (xs (6 * j + 2)), .int (xs (6 * j + 1)), .ref 40, .int x])) (h' := (sh0, σ1)) rfl ?_
  refine px_W.cE (as := [.ref 40, .int (xs (6 * j + 1)), .int (xs (6 * j + 2)), .int 1]) (st := [.int x]) (v := some (.int x)) (σ' := σ2) rfl rfl rfl (hM) ?_
  refine px_W.icmp_eq rfl (fun c3 => ?_) (fun c3 => absurd (rfl) c3)
  exact hc σ2 hR2
set_option maxRecDepth 20000 in
theorem lw_forget {L : Nat} {xs : Nat → Int32} {Q : Option Value → px_H → Prop} {σ : px_Sg} (hR : Rel σ) {j : Nat} (hj : 6 * j + 6 ≤ L) (hL : L ≤ 384)  (hc : ∀ τ, Rel τ → px_W L xs mL_law (1032, [some (.retAddr 0), some (.ref 0), some (.ref 40), some (.int (nI (6 * j)))], []) (sh0, τ) Q) : px_W L xs mL_law (672, [some (.retAddr 0), some (.ref 0), some (.ref 40), some (.int (nI (6 * j)))], []) (sh0, σ) Q := by
  obtain ⟨v, σ1, σ2, hX, hM, hR2⟩ := o_forget (L := L) (xs := xs) hR 
  obtain ⟨x, rfl⟩ := px_E_int hX rfl
  refine px_W.run 1 (f' := (673, [some (.retAddr 0), some (.ref 0), some (.ref 40), some (.int (nI (6 * j)))], [.ref 0])) (h' := (sh0, σ)) rfl ?_
  refine px_W.cE (as := [.ref 0]) (st := []) (v := some (.int x)) (σ' := σ1) rfl rfl rfl (hX) ?_
  refine px_W.run 1 (f' := (677, [some (.retAddr 0), some (.ref 0), some (.ref 40), some (.int (nI (6 * j)))], [.ref 40, .int x])) (h' := (sh0, σ1)) rfl ?_
  refine px_W.cE (as := [.ref 40]) (st := [.int x]) (v := some (.int x)) (σ' := σ2) rfl rfl rfl (hM) ?_
  refine px_W.icmp_eq rfl (fun c1 => ?_) (fun c1 => absurd (rfl) c1)
  exact hc σ2 hR2
set_option maxRecDepth 20000 in
theorem lw_hidden {L : Nat} {xs : Nat → Int32} {Q : Option Value → px_H → Prop} {σ : px_Sg} (hR : Rel σ) {j : Nat} (hj : 6 * j + 6 ≤ L) (hL : L ≤ 384)  (hc : ∀ τ, Rel τ → px_W L xs mL_law (1032, [some (.retAddr 0), some (.ref 0), some (.ref 40), some (.int (nI (6 * j)))], []) (sh0, τ) Q) : px_W L xs mL_law (685, [some (.retAddr 0), some (.ref 0), some (.ref 40), some (.int (nI (6 * j)))], []) (sh0, σ) Q := by
  obtain ⟨v, σ1, σ2, hX, hM, hR2⟩ := o_hidden (L := L) (xs := xs) hR (xs (6 * j + 1))
  obtain ⟨x, rfl⟩ := px_E_int hX rfl
  refine px_W.run 5 (f' := (690, [some (.retAddr 0), some (.ref 0), some (.ref 40), some (.int (nI (6 * j)))], [.int ((nI (6 * j)) + 1), .retAddr 0, .ref 0])) (h' := (sh0, σ)) rfl ?_
  refine px_W.sld rfl rfl (i := 6 * j + 1) (nI_add _ 1) (by omega) (by omega) ?_
  refine px_W.cE (as := [.ref 0, .int (xs (6 * j + 1))]) (st := []) (v := some (.int x)) (σ' := σ1) rfl rfl rfl (hX) ?_
  refine px_W.run 5 (f' := (699, [some (.retAddr 0), some (.ref 0), some (.ref 40), some (.int (nI (6 * j)))], [.int ((nI (6 * j)) + 1), .retAddr 0, .ref 40, .int x])) (h' := (sh0, σ1)) rfl ?_
  refine px_W.sld rfl rfl (i := 6 * j + 1) (nI_add _ 1) (by omega) (by omega) ?_
  refine px_W.cE (as := [.ref 40, .int (xs (6 * j + 1))]) (st := [.int x]) (v := some (.int x)) (σ' := σ2) rfl rfl rfl (hM) ?_
  refine px_W.icmp_eq rfl (fun c1 => ?_) (fun c1 => absurd (rfl) c1)
  exact hc σ2 hR2
set_option maxRecDepth 20000 in
theorem lw_tries {L : Nat} {xs : Nat → Int32} {Q : Option Value → px_H → Prop} {σ : px_Sg} (hR : Rel σ) {j : Nat} (hj : 6 * j + 6 ≤ L) (hL : L ≤ 384)  (hc : ∀ τ, Rel τ → px_W L xs mL_law (1032, [some (.retAddr 0), some (.ref 0), some (.ref 40), some (.int (nI (6 * j)))], []) (sh0, τ) Q) : px_W L xs mL_law (708, [some (.retAddr 0), some (.ref 0), some (.ref 40), some (.int (nI (6 * j)))], []) (sh0, σ) Q := by
  obtain ⟨v, σ1, σ2, hX, hM, hR2⟩ := o_tries (L := L) (xs := xs) hR (xs (6 * j + 1))
  obtain ⟨x, rfl⟩ := px_E_int hX rfl
  refine px_W.run 5 (f' := (713, [some (.retAddr 0), some (.ref 0), some (.ref 40), some (.int (nI (6 * j)))], [.int ((nI (6 * j)) + 1), .retAddr 0, .ref 0])) (h' := (sh0, σ)) rfl ?_
  refine px_W.sld rfl rfl (i := 6 * j + 1) (nI_add _ 1) (by omega) (by omega) ?_
  refine px_W.cE (as := [.ref 0, .int (xs (6 * j + 1))]) (st := []) (v := some (.int x)) (σ' := σ1) rfl rfl rfl (hX) ?_
  refine px_W.run 5 (f' := (722, [some (.retAddr 0), some (.ref 0), some (.ref 40), some (.int (nI (6 * j)))], [.int ((nI (6 * j)) + 1), .retAddr 0, .ref 40, .int x])) (h' := (sh0, σ1)) rfl ?_
  refine px_W.sld rfl rfl (i := 6 * j + 1) (nI_add _ 1) (by omega) (by omega) ?_
  refine px_W.cE (as := [.ref 40, .int (xs (6 * j + 1))]) (st := [.int x]) (v := some (.int x)) (σ' := σ2) rfl rfl rfl (hM) ?_
  refine px_W.icmp_eq rfl (fun c1 => ?_) (fun c1 => absurd (rfl) c1)
  exact hc σ2 hR2
set_option maxRecDepth 20000 in
theorem lw_send {L : Nat} {xs : Nat → Int32} {Q : Option Value → px_H → Prop} {σ : px_Sg} (hR : Rel σ) {j : Nat} (hj : 6 * j + 6 ≤ L) (hL : L ≤ 384)  (hc : ∀ τ, Rel τ → px_W L xs mL_law (1032, [some (.retAddr 0), some (.ref 0), some (.ref 40), some (.int (nI (6 * j)))], []) (sh0, τ) Q) : px_W L xs mL_law (731, [some (.retAddr 0), some (.ref 0), some (.ref 40), some (.int (nI (6 * j)))], []) (sh0, σ) Q := by
  obtain ⟨v, σ1, σ2, hX, hM, hR2⟩ := o_send (L := L) (xs := xs) hR (xs (6 * j + 1))
  obtain ⟨x, rfl⟩ := px_E_int hX rfl
  refine px_W.run 5 (f' := (736, [some (.retAddr 0), some (.ref 0), some (.ref 40), some (.int (nI (6 * j)))], [.int ((nI (6 * j)) + 1), .retAddr 0, .ref 0])) (h' := (sh0, σ)) rfl ?_
  refine px_W.sld rfl rfl (i := 6 * j + 1) (nI_add _ 1) (by omega) (by omega) ?_
  refine px_W.cE (as := [.ref 0, .int (xs (6 * j + 1))]) (st := []) (v := some (.int x)) (σ' := σ1) rfl rfl rfl (hX) ?_
  refine px_W.run 5 (f' := (745, [some (.retAddr 0), some (.ref 0), some (.ref 40), some (.int (nI (6 * j)))], [.int ((nI (6 * j)) + 1), .retAddr 0, .ref 40, .int x])) (h' := (sh0, σ1)) rfl ?_
  refine px_W.sld rfl rfl (i := 6 * j + 1) (nI_add _ 1) (by omega) (by omega) ?_
  refine px_W.cE (as := [.ref 40, .int (xs (6 * j + 1))]) (st := [.int x]) (v := some (.int x)) (σ' := σ2) rfl rfl rfl (hM) ?_
  refine px_W.icmp_eq rfl (fun c1 => ?_) (fun c1 => absurd (rfl) c1)
  exact hc σ2 hR2
set_option maxRecDepth 20000 in
theorem lw_makes {L : Nat} {xs : Nat → Int32} {Q : Option Value → px_H → Prop} {σ : px_Sg} (hR : Rel σ) {j : Nat} (hj : 6 * j + 6 ≤ L) (hL : L ≤ 384)  (hc : ∀ τ, Rel τ → px_W L xs mL_law (1032, [some (.retAddr 0), some (.ref 0), some (.ref 40), some (.int (nI (6 * j)))], []) (sh0, τ) Q) : px_W L xs mL_law (754, [some (.retAddr 0), some (.ref 0), some (.ref 40), some (.int (nI (6 * j)))], []) (sh0, σ) Q := by
  obtain ⟨v, σ1, σ2, hX, hM, hR2⟩ := o_makes (L := L) (xs := xs) hR (xs (6 * j + 1))
  obtain ⟨x, rfl⟩ := px_E_int hX rfl
  refine px_W.run 5 (f' := (759, [some (.retAddr 0), some (.ref 0), some (.ref 40), some (.int (nI (6 * j)))], [.int ((nI (6 * j)) + 1), .retAddr 0, .ref 0])) (h' := (sh0, σ)) rfl ?_
  refine px_W.sld rfl rfl (i := 6 * j + 1) (nI_add _ 1) (by omega) (by omega) ?_
  refine px_W.cE (as := [.ref 0, .int (xs (6 * j + 1))]) (st := []) (v := some (.int x)) (σ' := σ1) rfl rfl rfl (hX) ?_
  refine px_W.run 5 (f' := (768, [some (.retAddr 0), some (.ref 0), some (.ref 40), some (.int (nI (6 * j)))], [.int ((nI (6 * j)) + 1), .retAddr 0, .ref 40, .int x])) (h' := (sh0, σ1)) rfl ?_
  refine px_W.sld rfl rfl (i := 6 * j + 1) (nI_add _ 1) (by omega) (by omega) ?_
  refine px_W.cE (as := [.ref 40, .int (xs (6 * j + 1))]) (st := [.int x]) (v := some (.int x)) (σ' := σ2) rfl rfl rfl (hM) ?_
  refine px_W.icmp_eq rfl (fun c1 => ?_) (fun c1 => absurd (rfl) c1)
  exact hc σ2 hR2
set_option maxRecDepth 20000 in
theorem lw_quarrel {L : Nat} {xs : Nat → Int32} {Q : Option Value → px_H → Prop} {σ : px_Sg} (hR : Rel σ) {j : Nat} (hj : 6 * j + 6 ≤ L) (hL : L ≤ 384)  (hc : ∀ τ, Rel τ → px_W L xs mL_law (1032, [some (.retAddr 0), some (.ref 0), some (.ref 40), some (.int (nI (6 * j)))], []) (sh0, τ) Q) : px_W L xs mL_law (777, [some (.retAddr 0), some (.ref 0), some (.ref 40), some (.int (nI (6 * j)))], []) (sh0, σ) Q := by
  obtain ⟨v, σ1, σ2, hX, hM, hR2⟩ := o_quarrel (L := L) (xs := xs) hR (xs (6 * j + 1)) (xs (6 * j + 2))
  obtain ⟨x, rfl⟩ := px_E_int hX rfl
  refine px_W.run 5 (f' := (782, [some (.retAddr 0), some (.ref 0), some (.ref 40), some (.int (nI (6 * j)))], [.int ((nI (6 * j)) + 1), .retAddr 0, .ref 0])) (h' := (sh0, σ)) rfl ?_
  refine px_W.sld rfl rfl (i := 6 * j + 1) (nI_add _ 1) (by omega) (by omega) ?_
  refine px_W.run 4 (f' := (787, [some (.retAddr 0), some (.ref 0), some (.ref 40), some (.int (nI (6 * j)))], [.int ((nI (6 * j)) + 2), .retAddr 0, .int (xs (6 * j + 1)), .ref 0])) (h' := (sh0, σ)) rfl ?_
  refine px_W.sld rfl rfl (i := 6 * j + 2) (nI_add _ 2) (by omega) (by omega) ?_
  refine px_W.cE (as := [.ref 0, .int (xs (6 * j + 1)), .int (xs (6 * j + 2))]) (st := []) (v := some (.int x)) (σ' := σ1) rfl rfl rfl (hX) ?_
  refine px_W.run 5 (f' := (796, [some (.retAddr 0), some (.ref 0), some (.ref 40), some (.int (nI (6 * j)))], [.int ((nI (6 * j)) + 1), .retAddr 0, .ref 40, .int x])) (h' := (sh0, σ1)) rfl ?_
  refine px_W.sld rfl rfl (i := 6 * j + 1) (nI_add _ 1) (by omega) (by omega) ?_
  refine px_W.run 4 (f' := (801, [some (.retAddr 0), some (.ref 0), some (.ref 40), some (.int (nI (6 * j)))], [.int ((nI (6 * j)) + 2), .retAddr 0, .int (xs (6 * j + 1)), .ref 40, .int x])) (h' := (sh0, σ1)) rfl ?_
  refine px_W.sld rfl rfl (i := 6 * j + 2) (nI_add _ 2) (by omega) (by omega) ?_
  refine px_W.cE (as := [.ref 40, .int (xs (6 * j + 1)), .int (xs (6 * j + 2))]) (st := [.int x]) (v := some (.int x)) (σ' := σ2) rfl rfl rfl (hM) ?_
  refine px_W.icmp_eq rfl (fun c1 => ?_) (fun c1 => absurd (rfl) c1)
  exact hc σ2 hR2
set_option maxRecDepth 20000 in
theorem lw_sent {L : Nat} {xs : Nat → Int32} {Q : Option Value → px_H → Prop} {σ : px_Sg} (hR : Rel σ) {j : Nat} (hj : 6 * j + 6 ≤ L) (hL : L ≤ 384)  (hc : ∀ τ, Rel τ → px_W L xs mL_law (1032, [some (.retAddr 0), some (.ref 0), some (.ref 40), some (.int (nI (6 * j)))], []) (sh0, τ) Q) : px_W L xs mL_law (810, [some (.retAddr 0), some (.ref 0), some (.ref 40), some (.int (nI (6 * j)))], []) (sh0, σ) Q := by
  obtain ⟨v, σ1, σ2, hX, hM, hR2⟩ := o_sent (L := L) (xs := xs) hR 
  obtain ⟨x, rfl⟩ := px_E_int hX rfl
  refine px_W.run 1 (f' := (811, [some (.retAddr 0), some (.ref 0), some (.ref 40), some (.int (nI (6 * j)))], [.ref 0])) (h' := (sh0, σ)) rfl ?_
  refine px_W.cE (as := [.ref 0]) (st := []) (v := some (.int x)) (σ' := σ1) rfl rfl rfl (hX) ?_
  refine px_W.run 1 (f' := (815, [some (.retAddr 0), some (.ref 0), some (.ref 40), some (.int (nI (6 * j)))], [.ref 40, .int x])) (h' := (sh0, σ1)) rfl ?_
  refine px_W.cE (as := [.ref 40]) (st := [.int x]) (v := some (.int x)) (σ' := σ2) rfl rfl rfl (hM) ?_
  refine px_W.icmp_eq rfl (fun c1 => ?_) (fun c1 => absurd (rfl) c1)
  exact hc σ2 hR2
set_option maxRecDepth 20000 in
theorem lw_turns {L : Nat} {xs : Nat → Int32} {Q : Option Value → px_H → Prop} {σ : px_Sg} (hR : Rel σ) {j : Nat} (hj : 6 * j + 6 ≤ L) (hL : L ≤ 384)  (hc : ∀ τ, Rel τ → px_W L xs mL_law (1032, [some (.retAddr 0), some (.ref 0), some (.ref 40), some (.int (nI (6 * j)))], []) (sh0, τ) Q) : px_W L xs mL_law (823, [some (.retAddr 0), some (.ref 0), some (.ref 40), some (.int (nI (6 * j)))], []) (sh0, σ) Q := by
  obtain ⟨v, σ1, σ2, hX, hM, hR2⟩ := o_turns (L := L) (xs := xs) hR (xs (6 * j + 1)) (xs (6 * j + 2))
  obtain ⟨x, rfl⟩ := px_E_int hX rfl
  refine px_W.run 5 (f' := (828, [some (.retAddr 0), some (.ref 0), some (.ref 40), some (.int (nI (6 * j)))], [.int ((nI (6 * j)) + 1), .retAddr 0, .ref 0])) (h' := (sh0, σ)) rfl ?_
  refine px_W.sld rfl rfl (i := 6 * j + 1) (nI_add _ 1) (by omega) (by omega) ?_
  refine px_W.run 4 (f' := (833, [some (.retAddr 0), some (.ref 0), some (.ref 40), some (.int (nI (6 * j)))], [.int ((nI (6 * j)) + 2), .retAddr 0, .int (xs (6 * j + 1)), .ref 0])) (h' := (sh0, σ)) rfl ?_
  refine px_W.sld rfl rfl (i := 6 * j + 2) (nI_add _ 2) (by omega) (by omega) ?_
  refine px_W.cE (as := [.ref 0, .int (xs (6 * j + 1)), .int (xs (6 * j + 2))]) (st := []) (v := some (.int x)) (σ' := σ1) rfl rfl rfl (hX) ?_
  refine px_W.run 5 (f' := (842, [some (.retAddr 0), some (.ref 0), some (.ref 40), some (.int (nI (6 * j)))], [.int ((nI (6 * j)) + 1), .retAddr 0, .ref 40, .int x])) (h' := (sh0, σ1)) rfl ?_
  refine px_W.sld rfl rfl (i := 6 * j + 1) (nI_add _ 1) (by omega) (by omega) ?_
  refine px_W.run 4 (f' := (847, [some (.retAddr 0), some (.ref 0), some (.ref 40), some (.int (nI (6 * j)))], [.int ((nI (6 * j)) + 2), .retAddr 0, .int (xs (6 * j + 1)), .ref 40, .int x])) (h' := (sh0, σ1)) rfl ?_
  refine px_W.sld rfl rfl (i := 6 * j + 2) (nI_add _ 2) (by omega) (by omega) ?_
  refine px_W.cE (as := [.ref 40, .int (xs (6 * j + 1)), .int (xs (6 * j + 2))]) (st := [.int x]) (v := some (.int x)) (σ' := σ2) rfl rfl rfl (hM) ?_
  refine px_W.icmp_eq rfl (fun c1 => ?_) (fun c1 => absurd (rfl) c1)
  exact hc σ2 hR2
set_option maxRecDepth 20000 in
theorem lw_fever {L : Nat} {xs : Nat → Int32} {Q : Option Value → px_H → Prop} {σ : px_Sg} (hR : Rel σ) {j : Nat} (hj : 6 * j + 6 ≤ L) (hL : L ≤ 384)  (hc : ∀ τ, Rel τ → px_W L xs mL_law (1032, [some (.retAddr 0), some (.ref 0), some (.ref 40), some (.int (nI (6 * j)))], []) (sh0, τ) Q) : px_W L xs mL_law (856, [some (.retAddr 0), some (.ref 0), some (.ref 40), some (.int (nI (6 * j)))], []) (sh0, σ) Q := by
  obtain ⟨v, σ1, σ2, hX, hM, hR2⟩ := o_fever (L := L) (xs := xs) hR (xs (6 * j + 1)) (xs (6 * j + 2)) (xs (6 * j + 3)) (xs (6 * j + 4)) (xs (6 * j + 5))
  obtain ⟨x, rfl⟩ := px_E_long hX rfl
  refine px_W.run 5 (f' := (861, [some (.retAddr 0), some (.ref 0), some (.ref 40), some (.int (nI (6 * j)))], [.int ((nI (6 * j)) + 1), .retAddr 0, .ref 0])) (h' := (sh0, σ)) rfl ?_
  refine px_W.sld rfl rfl (i := 6 * j + 1) (nI_add _ 1) (by omega) (by omega) ?_
  refine px_W.run 4 (f' := (866, [some (.retAddr 0), some (.ref 0), some (.ref 40), some (.int (nI (6 * j)))], [.int ((nI (6 * j)) + 2), .retAddr 0, .int (xs (6 * j + 1)), .ref 0])) (h' := (sh0, σ)) rfl ?_
  refine px_W.sld rfl rfl (i := 6 * j + 2) (nI_add _ 2) (by omega) (by omega) ?_
  refine px_W.run 4 (f' := (871, [some (.retAddr 0), some (.ref 0), some (.ref 40), some (.int (nI (6 * j)))], [.int ((nI (6 * j)) + 3), .retAddr 0, .int (xs (6 * j + 2)), .int (xs (6 * j + 1)), .ref 0])) (h' := (sh0, σ)) rfl ?_
  refine px_W.sld rfl rfl (i := 6 * j + 3) (nI_add _ 3) (by omega) (by omega) ?_
  refine px_W.run 4 (f' := (876, [some (.retAddr 0), some (.ref 0), some (.ref 40), some (.int (nI (6 * j)))], [.int ((nI (6 * j)) + 4), .retAddr 0, .int (xs (6 * j + 3)), .int (xs (6 * j + 2)), .int (xs (6 * j + 1)), .ref 0])) (h' := (sh0, σ)) rfl ?_
  refine px_W.sld rfl rfl (i := 6 * j + 4) (nI_add _ 4) (by omega) (by omega) ?_
  refine px_W.run 4 (f' := (881, [some (.retAddr 0), some (.ref 0), some (.ref 40), some (.int (nI (6 * j)))], [.int ((nI (6 * j)) + 5), .retAddr 0, .int (xs (6 * j + 4)), .int (xs (6 * j + 3)), .int (xs (6 * j + 2)), .int (xs (6 * j + 1)), .ref 0])) (h' := (sh0, σ)) rfl ?_
  refine px_W.sld rfl rfl (i := 6 * j + 5) (nI_add _ 5) (by omega) (by omega) ?_
  refine px_W.cE (as := [.ref 0, .int (xs (6 * j + 1)), .int (xs (6 * j + 2)), .int (xs (6 * j + 3)), .int (xs (6 * j + 4)), .int (xs (6 * j + 5))]) (st := []) (v := some (.long x)) (σ' := σ1) rfl rfl rfl (hX) ?_
  refine px_W.run 5 (f' := (890, [some (.retAddr 0), some (.ref 0), some (.ref 40), some (.int (nI (6 * j)))], [.int ((nI (6 * j)) + 1), .retAddr 0, .ref 40, .long x])) (h' := (sh0, σ1)) rfl ?_
  refine px_W.sld rfl rfl (i := 6 * j + 1) (nI_add _ 1) (by omega) (by omega) ?_
  refine px_W.run 4 (f' := (895, [some (.retAddr 0), some (.ref 0), some (.ref 40), some (.int (nI (6 * j)))], [.int ((nI (6 * j)) + 2), .retAddr 0, .int (xs (6 * j + 1)), .ref 40, .long x])) (h' := (sh0, σ1)) rfl ?_
  refine px_W.sld rfl rfl (i := 6 * j + 2) (nI_add _ 2) (by omega) (by omega) ?_
  refine px_W.run 4 (f' := (900, [some (.retAddr 0), some (.ref 0), some (.ref 40), some (.int (nI (6 * j)))], [.int ((nI (6 * j)) + 3), .retAddr 0, .int (xs (6 * j + 2)), .int (xs (6 * j + 1)), .ref 40, .long x])) (h' := (sh0, σ1)) rfl ?_
  refine px_W.sld rfl rfl (i := 6 * j + 3) (nI_add _ 3) (by omega) (by omega) ?_
  refine px_W.run 4 (f' := (905, [some (.retAddr 0), some (.ref 0), some (.ref 40), some (.int (nI (6 * j)))], [.int ((nI (6 * j)) + 4), .retAddr 0, .int (xs (6 * j + 3)), .int (xs (6 * j + 2)), .int (xs (6 * j + 1)), .ref 40, .long x])) (h' := (sh0, σ1)) rfl ?_
  refine px_W.sld rfl rfl (i := 6 * j + 4) (nI_add _ 4) (by omega) (by omega) ?_
  refine px_W.run 4 (f' := (910, [some (.retAddr 0), some (.ref 0), some (.ref 40), some (.int (nI (6 * j)))], [.int ((nI (6 * j)) + 5), .retAddr 0, .int (xs (6 * j + 4)), .int (xs (6 * j + 3)), .int (xs (6 * j + 2)), .int (xs (6 * j + 1)), .ref 40, .long x])) (h' := (sh0, σ1)) rfl ?_
  refine px_W.sld rfl rfl (i := 6 * j + 5) (nI_add _ 5) (by omega) (by omega) ?_
  refine px_W.cE (as := [.ref 40, .int (xs (6 * j + 1)), .int (xs (6 * j + 2)), .int (xs (6 * j + 3)), .int (xs (6 * j + 4)), .int (xs (6 * j + 5))]) (st := [.long x]) (v := some (.long x)) (σ' := σ2) rfl rfl rfl (hM) ?_
  refine px_W.run 1 (f' := (915, [some (.retAddr 0), some (.ref 0), some (.ref 40), some (.int (nI (6 * j)))], [.int (lg_cmp x x)])) (h' := (sh0, σ2)) rfl ?_
  refine px_W.if_eq rfl (fun c1 => ?_) (fun c1 => absurd (lg_0.mpr rfl) c1)
  exact hc σ2 hR2
set_option maxRecDepth 20000 in
theorem lw_year {L : Nat} {xs : Nat → Int32} {Q : Option Value → px_H → Prop} {σ : px_Sg} (hR : Rel σ) {j : Nat} (hj : 6 * j + 6 ≤ L) (hL : L ≤ 384)  (hc : ∀ τ, Rel τ → px_W L xs mL_law (1032, [some (.retAddr 0), some (.ref 0), some (.ref 40), some (.int (nI (6 * j)))], []) (sh0, τ) Q) : px_W L xs mL_law (920, [some (.retAddr 0), some (.ref 0), some (.ref 40), some (.int (nI (6 * j)))], []) (sh0, σ) Q := by
  obtain ⟨v, σ1, σ2, hX, hM, hR2⟩ := o_year (L := L) (xs := xs) hR (xs (6 * j + 1)) (xs (6 * j + 2)) (xs (6 * j + 3))
  obtain ⟨x, rfl⟩ := px_E_int hX rfl
  refine px_W.run 5 (f' := (925, [some (.retAddr 0), some (.ref 0), some (.ref 40), some (.int (nI (6 * j)))], [.int ((nI (6 * j)) + 1), .retAddr 0, .ref 0])) (h' := (sh0, σ)) rfl ?_
  refine px_W.sld rfl rfl (i := 6 * j + 1) (nI_add _ 1) (by omega) (by omega) ?_
  refine px_W.run 4 (f' := (930, [some (.retAddr 0), some (.ref 0), some (.ref 40), some (.int (nI (6 * j)))], [.int ((nI (6 * j)) + 2), .retAddr 0, .int (xs (6 * j + 1)), .ref 0])) (h' := (sh0, σ)) rfl ?_
  refine px_W.sld rfl rfl (i := 6 * j + 2) (nI_add _ 2) (by omega) (by omega) ?_
  refine px_W.run 4 (f' := (935, [some (.retAddr 0), some (.ref 0), some (.ref 40), some (.int (nI (6 * j)))], [.int ((nI (6 * j)) + 3), .retAddr 0, .int (xs (6 * j + 2)), .int (xs (6 * j + 1)), .ref 0])) (h' := (sh0, σ)) rfl ?_
  refine px_W.sld rfl rfl (i := 6 * j + 3) (nI_add _ 3) (by omega) (by omega) ?_
  refine px_W.cE (as := [.ref 0, .int (xs (6 * j + 1)), .int (xs (6 * j + 2)), .int (xs (6 * j + 3))]) (st := []) (v := some (.int x)) (σ' := σ1) rfl rfl rfl (hX) ?_
  refine px_W.run 5 (f' := (944, [some (.retAddr 0), some (.ref 0), some (.ref 40), some (.int (nI (6 * j)))], [.int ((nI (6 * j)) + 1), .retAddr 0, .ref 40, .int x])) (h' := (sh0, σ1)) rfl ?_
  refine px_W.sld rfl rfl (i := 6 * j + 1) (nI_add _ 1) (by omega) (by omega) ?_
  refine px_W.run 4 (f' := (949, [some (.retAddr 0), some (.ref 0), some (.ref 40), some (.int (nI (6 * j)))], [.int ((nI (6 * j)) + 2), .retAddr 0, .int (xs (6 * j + 1)), .ref 40, .int x])) (h' := (sh0, σ1)) rfl ?_
  refine px_W.sld rfl rfl (i := 6 * j + 2) (nI_add _ 2) (by omega) (by omega) ?_
  refine px_W.run 4 (f' := (954, [some (.retAddr 0), some (.ref 0), some (.ref 40), some (.int (nI (6 * j)))], [.int ((nI (6 * j)) + 3), .retAddr 0, .int (xs (6 * j + 2)), .int (xs (6 * j + 1)), .ref 40, .int x])) (h' := (sh0, σ1)) rfl ?_
  refine px_W.sld rfl rfl (i := 6 * j + 3) (nI_add _ 3) (by omega) (by omega) ?_
  refine px_W.cE (as := [.ref 40, .int (xs (6 * j + 1)), .int (xs (6 * j + 2)), .int (xs (6 * j + 3))]) (st := [.int x]) (v := some (.int x)) (σ' := σ2) rfl rfl rfl (hM) ?_
  refine px_W.icmp_eq rfl (fun c1 => ?_) (fun c1 => absurd (rfl) c1)
  exact hc σ2 hR2
set_option maxRecDepth 20000 in
theorem lw_image {L : Nat} {xs : Nat → Int32} {Q : Option Value → px_H → Prop} {σ : px_Sg} (hR : Rel σ) {j : Nat} (hj : 6 * j + 6 ≤ L) (hL : L ≤ 384)  (hc : ∀ τ, Rel τ → px_W L xs mL_law (1032, [some (.retAddr 0), some (.ref 0), some (.ref 40), some (.int (nI (6 * j)))], []) (sh0, τ) Q) : px_W L xs mL_law (963, [some (.retAddr 0), some (.ref 0), some (.ref 40), some (.int (nI (6 * j)))], []) (sh0, σ) Q := by
  obtain ⟨v, σ1, σ2, hX, hM, hR2⟩ := o_image (L := L) (xs := xs) hR (xs (6 * j + 1))
  obtain ⟨x, rfl⟩ := px_E_int hX rfl
  refine px_W.run 5 (f' := (968, [some (.retAddr 0), some (.ref 0), some (.ref 40), some (.int (nI (6 * j)))], [.int ((nI (6 * j)) + 1), .retAddr 0, .ref 0])) (h' := (sh0, σ)) rfl ?_
  refine px_W.sld rfl rfl (i := 6 * j + 1) (nI_add _ 1) (by omega) (by omega) ?_
  refine px_W.cE (as := [.ref 0, .int (xs (6 * j + 1))]) (st := []) (v := some (.int x)) (σ' := σ1) rfl rfl rfl (hX) ?_
  refine px_W.run 5 (f' := (977, [some (.retAddr 0), some (.ref 0), some (.ref 40), some (.int (nI (6 * j)))], [.int ((nI (6 * j)) + 1), .retAddr 0, .ref 40, .int x])) (h' := (sh0, σ1)) rfl ?_
  refine px_W.sld rfl rfl (i := 6 * j + 1) (nI_add _ 1) (by omega) (by omega) ?_
  refine px_W.cE (as := [.ref 40, .int (xs (6 * j + 1))]) (st := [.int x]) (v := some (.int x)) (σ' := σ2) rfl rfl rfl (hM) ?_
  refine px_W.icmp_eq rfl (fun c1 => ?_) (fun c1 => absurd (rfl) c1)
  exact hc σ2 hR2
set_option maxRecDepth 20000 in
theorem lw_restore {L : Nat} {xs : Nat → Int32} {Q : Option Value → px_H → Prop} {σ : px_Sg} (hR : Rel σ) {j : Nat} (hj : 6 * j + 6 ≤ L) (hL : L ≤ 384)  (hc : ∀ τ, Rel τ → px_W L xs mL_law (1032, [some (.retAddr 0), some (.ref 0), some (.ref 40), some (.int (nI (6 * j)))], []) (sh0, τ) Q) : px_W L xs mL_law (986, [some (.retAddr 0), some (.ref 0), some (.ref 40), some (.int (nI (6 * j)))], []) (sh0, σ) Q := by
  obtain ⟨v, σ1, σ2, hX, hM, hR2⟩ := o_restore (L := L) (xs := xs) hR (xs (6 * j + 1))
  obtain ⟨x, rfl⟩ := px_E_int hX rfl
  refine px_W.run 5 (f' := (991, [some (.retAddr 0), some (.ref 0), some (.ref 40), some (.int (nI (6 * j)))], [.int ((nI (6 * j)) + 1), .retAddr 0, .ref 0])) (h' := (sh0, σ)) rfl ?_
  refine px_W.sld rfl rfl (i := 6 * j + 1) (nI_add _ 1) (by omega) (by omega) ?_
  refine px_W.cE (as := [.ref 0, .int (xs (6 * j + 1))]) (st := []) (v := some (.int x)) (σ' := σ1) rfl rfl rfl (hX) ?_
  refine px_W.run 5 (f' := (1000, [some (.retAddr 0), some (.ref 0), some (.ref 40), some (.int (nI (6 * j)))], [.int ((nI (6 * j)) + 1), .retAddr 0, .ref 40, .int x])) (h' := (sh0, σ1)) rfl ?_
  refine px_W.sld rfl rfl (i := 6 * j + 1) (nI_add _ 1) (by omega) (by omega) ?_
  refine px_W.cE (as := [.ref 40, .int (xs (6 * j + 1))]) (st := [.int x]) (v := some (.int x)) (σ' := σ2) rfl rfl rfl (hM) ?_
  refine px_W.icmp_eq rfl (fun c1 => ?_) (fun c1 => absurd (rfl) c1)
  exact hc σ2 hR2
set_option maxRecDepth 20000 in
theorem lw_told {L : Nat} {xs : Nat → Int32} {Q : Option Value → px_H → Prop} {σ : px_Sg} (hR : Rel σ) {j : Nat} (hj : 6 * j + 6 ≤ L) (hL : L ≤ 384)  (hc : ∀ τ, Rel τ → px_W L xs mL_law (1032, [some (.retAddr 0), some (.ref 0), some (.ref 40), some (.int (nI (6 * j)))], []) (sh0, τ) Q) : px_W L xs mL_law (1009, [some (.retAddr 0), some (.ref 0), some (.ref 40), some (.int (nI (6 * j)))], []) (sh0, σ) Q := by
  obtain ⟨v, σ1, σ2, hX, hM, hR2⟩ := o_told (L := L) (xs := xs) hR (xs (6 * j + 1))
  obtain ⟨x, rfl⟩ := px_E_int hX rfl
  refine px_W.run 5 (f' := (1014, [some (.retAddr 0), some (.ref 0), some (.ref 40), some (.int (nI (6 * j)))], [.int ((nI (6 * j)) + 1), .retAddr 0, .ref 0])) (h' := (sh0, σ)) rfl ?_
  refine px_W.sld rfl rfl (i := 6 * j + 1) (nI_add _ 1) (by omega) (by omega) ?_
  refine px_W.cE (as := [.ref 0, .int (xs (6 * j + 1))]) (st := []) (v := some (.int x)) (σ' := σ1) rfl rfl rfl (hX) ?_
  refine px_W.run 5 (f' := (1023, [some (.retAddr 0), some (.ref 0), some (.ref 40), some (.int (nI (6 * j)))], [.int ((nI (6 * j)) + 1), .retAddr 0, .ref 40, .int x])) (h' := (sh0, σ1)) rfl ?_
  refine px_W.sld rfl rfl (i := 6 * j + 1) (nI_add _ 1) (by omega) (by omega) ?_
  refine px_W.cE (as := [.ref 40, .int (xs (6 * j + 1))]) (st := [.int x]) (v := some (.int x)) (σ' := σ2) rfl rfl rfl (hM) ?_
  refine px_W.icmp_eq rfl (fun c1 => ?_) (fun c1 => absurd (rfl) c1)
  exact hc σ2 hR2
set_option maxRecDepth 20000 in
theorem lw_disp {L : Nat} {xs : Nat → Int32} {Q : Option Value → px_H → Prop} {σ : px_Sg} (hR : Rel σ) {j : Nat} (hj : 6 * j + 6 ≤ L) (hL : L ≤ 384) (hc : ∀ τ, Rel τ → px_W L xs mL_law (1032, [some (.retAddr 0), some (.ref 0), some (.ref 40), some (.int (nI (6 * j)))], []) (sh0, τ) Q) {k : Nat} (hk : k < 32) : px_W L xs mL_law (33, [some (.retAddr 0), some (.ref 0), some (.ref 40), some (.int (nI (6 * j)))], [.int (nI k)]) (sh0, σ) Q := by
  match k, hk with
  | 0, _ => exact px_W.tsw (tg := 172) rfl (by decide) (lw_part hR hj hL hc)
  | 1, _ => exact px_W.tsw (tg := 225) rfl (by decide) (lw_needs hR hj hL hc)
  | 2, _ => exact px_W.tsw (tg := 258) rfl (by decide) (lw_say hR hj hL hc)
  | 3, _ => exact px_W.tsw (tg := 281) rfl (by decide) (lw_wipe hR hj hL hc)
  | 4, _ => exact px_W.tsw (tg := 294) rfl (by decide) (lw_fault hR hj hL hc)
  | 5, _ => exact px_W.tsw (tg := 307) rfl (by decide) (lw_judge hR hj hL hc)
  | 6, _ => exact px_W.tsw (tg := 330) rfl (by decide) (lw_done hR hj hL hc)
  | 7, _ => exact px_W.tsw (tg := 343) rfl (by decide) (lw_state hR hj hL hc)
  | 8, _ => exact px_W.tsw (tg := 366) rfl (by decide) (lw_behind hR hj hL hc)
  | 9, _ => exact px_W.tsw (tg := 389) rfl (by decide) (lw_can hR hj hL hc)
  | 10, _ => exact px_W.tsw (tg := 402) rfl (by decide) (lw_lacks hR hj hL hc)
  | 11, _ => exact px_W.tsw (tg := 435) rfl (by decide) (lw_plan hR hj hL hc)
  | 12, _ => exact px_W.tsw (tg := 478) rfl (by decide) (lw_orders hR hj hL hc)
  | 13, _ => exact px_W.tsw (tg := 491) rfl (by decide) (lw_bar hR hj hL hc)
  | 14, _ => exact px_W.tsw (tg := 524) rfl (by decide) (lw_falls hR hj hL hc)
  | 15, _ => exact px_W.tsw (tg := 557) rfl (by decide) (lw_alone hR hj hL hc)
  | 16, _ => exact px_W.tsw (tg := 580) rfl (by decide) (lw_guard hR hj hL hc)
  | 17, _ =>
    refine px_W.tsw (tg := 613) rfl (by decide) ?_
    by_cases hz : xs (6 * j + 3) = 0
    · exact lw_seen0 hR hj hL hz hc
    · exact lw_seen1 hR hj hL hz hc
  | 18, _ => exact px_W.tsw (tg := 672) rfl (by decide) (lw_forget hR hj hL hc)
  | 19, _ => exact px_W.tsw (tg := 685) rfl (by decide) (lw_hidden hR hj hL hc)
  | 20, _ => exact px_W.tsw (tg := 708) rfl (by decide) (lw_tries hR hj hL hc)
  | 21, _ => exact px_W.tsw (tg := 731) rfl (by decide) (lw_send hR hj hL hc)
  | 22, _ => exact px_W.tsw (tg := 754) rfl (by decide) (lw_makes hR hj hL hc)
  | 23, _ => exact px_W.tsw (tg := 777) rfl (by decide) (lw_quarrel hR hj hL hc)
  | 24, _ => exact px_W.tsw (tg := 810) rfl (by decide) (lw_sent hR hj hL hc)
  | 25, _ => exact px_W.tsw (tg := 823) rfl (by decide) (lw_turns hR hj hL hc)
  | 26, _ => exact px_W.tsw (tg := 856) rfl (by decide) (lw_fever hR hj hL hc)
  | 27, _ => exact px_W.tsw (tg := 920) rfl (by decide) (lw_year hR hj hL hc)
  | 28, _ => exact px_W.tsw (tg := 963) rfl (by decide) (lw_image hR hj hL hc)
  | 29, _ => exact px_W.tsw (tg := 986) rfl (by decide) (lw_restore hR hj hL hc)
  | 30, _ => exact px_W.tsw (tg := 1009) rfl (by decide) (lw_told hR hj hL hc)
  | 31, _ => exact px_W.tsw (tg := 1032) rfl (by decide) (hc σ hR)
  | n + 32, h => exact absurd h (by omega)
set_option maxRecDepth 20000 in
theorem lw_turn {L : Nat} {xs : Nat → Int32} {Q : Option Value → px_H → Prop} {σ : px_Sg} (hR : Rel σ) {j : Nat} (hj : 6 * j + 6 ≤ L) (hL : L ≤ 384) (hc : ∀ τ, Rel τ → px_W L xs mL_law (18, [some (.retAddr 0), some (.ref 0), some (.ref 40), some (.int (nI (6 * (j + 1))))], []) (sh0, τ) Q) : px_W L xs mL_law (18, [some (.retAddr 0), some (.ref 0), some (.ref 40), some (.int (nI (6 * j)))], []) (sh0, σ) Q := by
  refine px_W.run 5 (f' := (24, [some (.retAddr 0), some (.ref 0), some (.ref 40), some (.int (nI (6 * j)))], [.int (Int32.ofNat L - 6), .int (nI (6 * j))])) (h' := (sh0, σ)) rfl ?_
  refine px_W.icmp_gt rfl (fun c => absurd c ?_) (fun _ => ?_)
  · have e : Int32.ofNat L - 6 = nI (L - 6) := pk_sub (a := L) (b := 6) (by omega)
    rw [e]
    exact nI_nlt (by omega) (by omega)
  · refine px_W.run 2 (f' := (29, [some (.retAddr 0), some (.ref 0), some (.ref 40), some (.int (nI (6 * j)))], [.int (nI (6 * j)), .retAddr 0])) (h' := (sh0, σ)) rfl ?_
    refine px_W.sld rfl rfl (i := 6 * j) rfl (by omega) (by omega) ?_
    refine px_W.run 2 (f' := (33, [some (.retAddr 0), some (.ref 0), some (.ref 40), some (.int (nI (6 * j)))], [.int (xs (6 * j) &&& 31)])) (h' := (sh0, σ)) rfl ?_
    obtain ⟨k, hk, ek⟩ := pk_andE (xs (6 * j)) (m := 31) 5 (by decide)
    rw [ek]
    refine lw_disp hR hj hL (fun τ hτ => ?_) hk
    refine px_W.run 2 (f' := (18, [some (.retAddr 0), some (.ref 0), some (.ref 40), some (.int (nI (6 * j) + 6))], [])) (h' := (sh0, τ)) rfl ?_
    refine px_W.to ?_ (hc τ hτ)
    rw [show nI (6 * j) + 6 = nI (6 * (j + 1)) from (nI_add (6 * j) 6).trans (congrArg nI (by omega))]
set_option maxRecDepth 20000 in
theorem lw_end {L : Nat} {xs : Nat → Int32} {Q : Option Value → px_H → Prop} {σ : px_Sg} {j : Nat} (hj : j ≤ 1000) (hj2 : L < 6 * j + 6) (hL : L ≤ 384) (hq : Q (some (.int 1)) (sh0, σ)) : px_W L xs mL_law (18, [some (.retAddr 0), some (.ref 0), some (.ref 40), some (.int (nI (6 * j)))], []) (sh0, σ) Q := by
  refine px_W.run 5 (f' := (24, [some (.retAddr 0), some (.ref 0), some (.ref 40), some (.int (nI (6 * j)))], [.int (Int32.ofNat L - 6), .int (nI (6 * j))])) (h' := (sh0, σ)) rfl ?_
  refine px_W.icmp_gt rfl (fun _ => ?_) (fun c => absurd ?_ c)
  · refine px_W.run 1 (f' := (1039, [some (.retAddr 0), some (.ref 0), some (.ref 40), some (.int (nI (6 * j)))], [.int 1])) (h' := (sh0, σ)) rfl ?_
    exact px_W.zret rfl rfl (Or.inr rfl) hq
  · by_cases h6 : 6 ≤ L
    · have e : Int32.ofNat L - 6 = nI (L - 6) := pk_sub (a := L) (b := 6) h6
      rw [e]
      exact nI_lt (by omega) (by omega)
    · have e : Int32.ofNat L - 6 < 0 := pk_sneg (a := L) (b := 6) (by decide) (by omega)
      exact Int32.lt_of_lt_of_le e (nI_pos' (by omega))
theorem lw_loop {L : Nat} {xs : Nat → Int32} {Q : Option Value → px_H → Prop} (hL : L ≤ 384) (hq : ∀ τ, Q (some (.int 1)) (sh0, τ)) : ∀ (d j : Nat) (σ : px_Sg), j + d = L / 6 → Rel σ → px_W L xs mL_law (18, [some (.retAddr 0), some (.ref 0), some (.ref 40), some (.int (nI (6 * j)))], []) (sh0, σ) Q
  | 0, j, σ, h, _ => lw_end (by omega) (by omega) hL (hq σ)
  | d + 1, j, σ, h, hR => lw_turn hR (by omega) hL (fun τ hτ => lw_loop hL hq d (j + 1) τ (by omega) hτ)
theorem px_law (L : Nat) (xs : Nat → Int32) (hL : L ≤ 384) : ∃ n r h', px_run px_T L xs n mL_law (0, px_ent [.retAddr 0] 4, []) ([], fun _ _ => 0) = some (r, h') ∧ r = some (.int 1) ∧ h'.1.length ≤ 56 ∧ px_ss h'.1 ≤ 1996 := by
  have key : px_W L xs mL_law (0, [some (.retAddr 0), none, none, none], []) ([], fun _ _ => 0) (fun r h => r = some (.int 1) ∧ ∃ τ, h = (sh0, τ)) := law_0 (lw_loop hL (fun τ => ⟨rfl, τ, rfl⟩) (L / 6) 0 s_init (Nat.zero_add _) init_Rel)
  obtain ⟨n, r, h', h1, h2, τ, h3⟩ := key
  refine ⟨n, r, h', h1, h2, ?_, ?_⟩
  · rw [h3]; show sh0.length ≤ 56; decide
  · rw [h3]; show px_ss sh0 ≤ 1996; decide
