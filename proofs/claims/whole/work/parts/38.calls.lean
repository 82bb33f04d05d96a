theorem tn_ne (k : Nat) {d c : Nat} (h : c < 10 ∧ k < 8 ∧ d < 10) : ¬ nI (10 * (k + 1) + d) = nI c := fun z => absurd ((nI_eq (by omega) (by omega)).mp z) (by omega)
theorem tn_ge (k : Nat) {d c : Nat} (h : c ≤ 10 ∧ k < 8 ∧ d < 10) : ¬ nI (10 * (k + 1) + d) < nI c := nI_nlt (by omega) (by omega)
theorem tn_lt (k : Nat) {d c : Nat} (h : 100 ≤ c ∧ c < 1000 ∧ k < 8 ∧ d < 10) : nI (10 * (k + 1) + d) < nI c := nI_lt (by omega) (by omega)
theorem tn_ned (k d : Nat) {c : Nat} (h : c < 10 ∧ k < 8 ∧ d < 10) : ¬ nI (10 * (k + 1) + d) = nI c := tn_ne k h
theorem tn_ged (k d : Nat) {c : Nat} (h : c ≤ 10 ∧ k < 8 ∧ d < 10) : ¬ nI (10 * (k + 1) + d) < nI c := tn_ge k h
theorem tn_ltd (k d : Nat) {c : Nat} (h : 100 ≤ c ∧ c < 1000 ∧ k < 8 ∧ d < 10) : nI (10 * (k + 1) + d) < nI c := tn_lt k h
theorem td_q (k : Nat) {d : Nat} (hk : k < 8) (hd : d < 10) : nI (10 * (k + 1) + d) / 10 = nI (k + 1) := by
  have := pk_div (a := 10 * (k + 1) + d) (d := 10) (by omega) (by omega) (by omega)
  rw [show (10 * (k + 1) + d) / 10 = k + 1 by omega] at this
  exact this
theorem td_k (k : Nat) {d : Nat} (hk : k < 8) (hd : d < 10) : nI (10 * (k + 1) + d) / 10 - 1 = cI k := by
  rw [td_q k hk hd, cI_n]
  exact nI_pred k
theorem td_d (k : Nat) {d : Nat} (hk : k < 8) (hd : d < 10) : nI (10 * (k + 1) + d) - nI (10 * (k + 1) + d) / 10 * 10 = nI d := by
  have := pk_rem (a := 10 * (k + 1) + d) (d := 10) (by omega) (by omega) (by omega)
  rw [show (10 * (k + 1) + d) % 10 = d by omega] at this
  exact this
theorem i4_big {j : Nat} (h1 : 4 ≤ j) (h2 : j < 2147483648) : i4 (nI j) = false := by
  unfold i4
  have : (4 : Int32) ≤ nI j := nI_le (a := 4) h1 h2
  simp [this]
theorem i8_big {j : Nat} (h1 : 8 ≤ j) (h2 : j < 2147483648) : i8 (nI j) = false := by
  unfold i8
  have : (8 : Int32) ≤ nI j := nI_le (a := 8) h1 h2
  simp [this]
theorem td_c (k d : Nat) (h : k < 8 ∧ d < 10) : i4 (nI (10 * (k + 1) + d) - 2) = false := by
  have : nI (10 * (k + 1) + d) - 2 = nI (10 * (k + 1) + d - 2) := pk_sub (b := 2) (by omega)
  rw [this]
  exact i4_big (by omega) (by omega)
theorem t1_c (k : Nat) (hk : k < 8) : i4 (nI (100 + k) - 2) = false := by
  have : nI (100 + k) - 2 = nI (100 + k - 2) := pk_sub (b := 2) (by omega)
  rw [this]
  exact i4_big (by omega) (by omega)
theorem t1_p (k : Nat) (hk : k < 8) : i8 (nI (100 + k) / 10 - 1) = false := by
  have h1 : nI (100 + k) / 10 = nI ((100 + k) / 10) := pk_div (d := 10) (by omega) (by omega) (by omega)
  rw [h1, show (100 + k) / 10 = 10 by omega]
  decide
theorem t1_k (k : Nat) : nI (100 + k) - 100 = cI k := by
  have : nI (100 + k) - 100 = nI (100 + k - 100) := pk_sub (b := 100) (by omega)
  rw [this, cI_n, show 100 + k - 100 = k by omega]
theorem lt2_le {x : Int32} (h : x < 2) : x ≤ 1 := by
  rw [Int32.lt_iff_toInt_lt] at h
  rw [Int32.le_iff_toInt_le]
  have e1 : (2 : Int32).toInt = 2 := by decide
  have e2 : (1 : Int32).toInt = 1 := by decide
  omega
def im1 (f h u g p n : Nat → Int32) (off : Nat) : Nat → Nat → Int32
  | 0 => f
  | i + 1 => upd (upd (upd (upd (upd (im1 f h u g p n off i) (off + i) (h i)) (off + (8 + i)) (u i)) (off + (16 + i)) (g i)) (off + (24 + i)) (p i)) (off + (32 + i)) (n i)
def im2 (f s : Nat → Int32) (off : Nat) : Nat → Nat → Int32
  | 0 => f
  | i + 1 => upd (im2 f s off i) (off + i) (s i)
def im3 (f s : Nat → Int32) (off : Nat) : Nat → Nat → Int32
  | 0 => f
  | i + 1 => upd (im3 f s off i) (off + i) (s i)
theorem px_up5 (σ : px_Sg) (a1 a2 a3 a4 a5 b1 b2 b3 b4 b5 : Nat → Int32) : px_up (px_up (px_up (px_up (px_up (px_up (px_up (px_up (px_up (px_up σ 41 a1) 42 a2) 43 a3) 44 a4) 45 a5) 41 b1) 42 b2) 43 b3) 44 b4) 45 b5 = px_up (px_up (px_up (px_up (px_up σ 41 b1) 42 b2) 43 b3) 44 b4) 45 b5 := by
  funext j
  unfold px_up
  by_cases h1 : j = 45
  · simp [h1]
  · by_cases h2 : j = 44
    · simp [h2]
    · by_cases h3 : j = 43
      · simp [h3]
      · by_cases h4 : j = 42
        · simp [h4]
        · by_cases h5 : j = 41 <;> simp [h1, h2, h3, h4, h5]
theorem px_up_id {σ : px_Sg} {k : Nat} {f : Nat → Int32} (h : f = σ k) : px_up σ k f = σ := by rw [h]; exact px_up_self σ k
theorem px_up5s (σ : px_Sg) : px_up (px_up (px_up (px_up (px_up σ 41 (σ 41)) 42 (σ 42)) 43 (σ 43)) 44 (σ 44)) 45 (σ 45) = σ := by
  rw [px_up_self, px_up_self, px_up_self, px_up_self, px_up_self]
theorem tX_told_0 {L : Nat} {xs : Nat → Int32} (σ : px_Sg) : px_E L xs mX2_told [.ref 0, .int 0] σ (some (.int (σ 37 1))) σ := by
  show px_W L xs mX2_told (0, [some (.ref 0), some (.int 0)], []) (sh0, σ) _
  refine px_W.run 1 (f' := (1, [some (.ref 0), some (.int 0)], [.int 0])) (h' := (sh0, σ)) rfl ?_
  refine px_W.if_ne rfl (fun c1 => ?_) (fun c1 => absurd (by decide) c1)
  refine px_W.run 3 (f' := (11, [some (.ref 0), some (.int 0)], [.int (σ 37 1)])) (h' := (sh0, σ)) rfl ?_
  exact px_W.iret rfl rfl ⟨rfl, rfl⟩
theorem tX_told_1 {L : Nat} {xs : Nat → Int32} (σ : px_Sg) : px_E L xs mX2_told [.ref 0, .int 1] σ (some (.int (σ 1 10))) σ := by
  show px_W L xs mX2_told (0, [some (.ref 0), some (.int 1)], []) (sh0, σ) _
  refine px_W.run 1 (f' := (1, [some (.ref 0), some (.int 1)], [.int 1])) (h' := (sh0, σ)) rfl ?_
  refine px_W.if_ne rfl (fun c1 => absurd c1 (by decide)) (fun c1 => ?_)
  refine px_W.run 2 (f' := (14, [some (.ref 0), some (.int 1)], [.int 1, .int 1])) (h' := (sh0, σ)) rfl ?_
  refine px_W.icmp_ne rfl (fun c2 => ?_) (fun c2 => absurd (by decide) c2)
  refine px_W.run 3 (f' := (24, [some (.ref 0), some (.int 1)], [.int (σ 1 10)])) (h' := (sh0, σ)) rfl ?_
  exact px_W.iret rfl rfl ⟨rfl, rfl⟩
theorem tM_told_0 {L : Nat} {xs : Nat → Int32} (σ : px_Sg) : px_E L xs mX3_told [.ref 40, .int 0] σ (some (.int (σ 40 10))) σ := by
  show px_W L xs mX3_told (0, [some (.ref 40), some (.int 0), none], []) (sh0, σ) _
  refine px_W.run 2 (f' := (3, [some (.ref 40), some (.int 0), none], [.int 100, .int 0])) (h' := (sh0, σ)) rfl ?_
  refine px_W.icmp_lt rfl (fun c1 => ?_) (fun c1 => absurd (by decide) c1)
  refine px_W.run 2 (f' := (34, [some (.ref 40), some (.int 0), none], [.int 10, .int 0])) (h' := (sh0, σ)) rfl ?_
  refine px_W.icmp_lt rfl (fun c2 => ?_) (fun c2 => absurd (by decide) c2)
  refine px_W.run 1 (f' := (126, [some (.ref 40), some (.int 0), none], [.int 0])) (h' := (sh0, σ)) rfl ?_
  refine px_W.if_ne rfl (fun c3 => ?_) (fun c3 => absurd (by decide) c3)
  refine px_W.run 3 (f' := (170, [some (.ref 40), some (.int 0), none], [.int (σ 40 10)])) (h' := (sh0, σ)) rfl ?_
  exact px_W.iret rfl rfl ⟨rfl, rfl⟩
theorem tM_told_1 {L : Nat} {xs : Nat → Int32} (σ : px_Sg) : px_E L xs mX3_told [.ref 40, .int 1] σ (some (.int (σ 40 8))) σ := by
  show px_W L xs mX3_told (0, [some (.ref 40), some (.int 1), none], []) (sh0, σ) _
  refine px_W.run 2 (f' := (3, [some (.ref 40), some (.int 1), none], [.int 100, .int 1])) (h' := (sh0, σ)) rfl ?_
  refine px_W.icmp_lt rfl (fun c1 => ?_) (fun c1 => absurd (by decide) c1)
  refine px_W.run 2 (f' := (34, [some (.ref 40), some (.int 1), none], [.int 10, .int 1])) (h' := (sh0, σ)) rfl ?_
  refine px_W.icmp_lt rfl (fun c2 => ?_) (fun c2 => absurd (by decide) c2)
  refine px_W.run 1 (f' := (126, [some (.ref 40), some (.int 1), none], [.int 1])) (h' := (sh0, σ)) rfl ?_
  refine px_W.if_ne rfl (fun c3 => absurd c3 (by decide)) (fun c3 => ?_)
  refine px_W.run 2 (f' := (138, [some (.ref 40), some (.int 1), none], [.int 1, .int 1])) (h' := (sh0, σ)) rfl ?_
  refine px_W.icmp_ne rfl (fun c4 => ?_) (fun c4 => absurd (by decide) c4)
  refine px_W.run 3 (f' := (170, [some (.ref 40), some (.int 1), none], [.int (σ 40 8)])) (h' := (sh0, σ)) rfl ?_
  exact px_W.iret rfl rfl ⟨rfl, rfl⟩
theorem tX_told_2 {L : Nat} {xs : Nat → Int32} (σ : px_Sg) : px_E L xs mX2_told [.ref 0, .int 2] σ (some (.int (σ 9 0))) σ := by
  show px_W L xs mX2_told (0, [some (.ref 0), some (.int 2)], []) (sh0, σ) _
  refine px_W.run 1 (f' := (1, [some (.ref 0), some (.int 2)], [.int 2])) (h' := (sh0, σ)) rfl ?_
  refine px_W.if_ne rfl (fun c1 => absurd c1 (by decide)) (fun c1 => ?_)
  refine px_W.run 2 (f' := (14, [some (.ref 0), some (.int 2)], [.int 1, .int 2])) (h' := (sh0, σ)) rfl ?_
  refine px_W.icmp_ne rfl (fun c2 => absurd c2 (by decide)) (fun c2 => ?_)
  refine px_W.run 2 (f' := (27, [some (.ref 0), some (.int 2)], [.int 2, .int 2])) (h' := (sh0, σ)) rfl ?_
  refine px_W.icmp_lt rfl (fun c3 => absurd c3 (by decide)) (fun c3 => ?_)
  refine px_W.run 3 (f' := (33, [some (.ref 0), some (.int 2)], [.int (2 - 2)])) (h' := (sh0, σ)) rfl ?_
  refine px_W.cE (as := [.int (2 - 2)]) (st := []) (v := some (.int (bo (i4 (2 - 2))))) (σ' := σ) rfl rfl rfl (tX_isColony σ (2 - 2)) ?_
  refine px_W.if_eq rfl (fun c4 => absurd c4 (by decide)) (fun c4 => ?_)
  refine px_W.run 6 (f' := (49, [some (.ref 0), some (.int 2)], [.int (2 - 2), .ref 9])) (h' := (sh0, σ)) rfl ?_
  refine px_W.iald rfl rfl (i := 0) (by decide) (by decide) (by decide) ?_
  exact px_W.iret rfl rfl ⟨rfl, rfl⟩
theorem tM_told_2 {L : Nat} {xs : Nat → Int32} (σ : px_Sg) : px_E L xs mX3_told [.ref 40, .int 2] σ (some (.int (σ 46 0))) σ := by
  show px_W L xs mX3_told (0, [some (.ref 40), some (.int 2), none], []) (sh0, σ) _
  refine px_W.run 2 (f' := (3, [some (.ref 40), some (.int 2), none], [.int 100, .int 2])) (h' := (sh0, σ)) rfl ?_
  refine px_W.icmp_lt rfl (fun c1 => ?_) (fun c1 => absurd (by decide) c1)
  refine px_W.run 2 (f' := (34, [some (.ref 40), some (.int 2), none], [.int 10, .int 2])) (h' := (sh0, σ)) rfl ?_
  refine px_W.icmp_lt rfl (fun c2 => ?_) (fun c2 => absurd (by decide) c2)
  refine px_W.run 1 (f' := (126, [some (.ref 40), some (.int 2), none], [.int 2])) (h' := (sh0, σ)) rfl ?_
  refine px_W.if_ne rfl (fun c3 => absurd c3 (by decide)) (fun c3 => ?_)
  refine px_W.run 2 (f' := (138, [some (.ref 40), some (.int 2), none], [.int 1, .int 2])) (h' := (sh0, σ)) rfl ?_
  refine px_W.icmp_ne rfl (fun c4 => absurd c4 (by decide)) (fun c4 => ?_)
  refine px_W.run 3 (f' := (151, [some (.ref 40), some (.int 2), none], [.int 5, .int 2, .int 2])) (h' := (sh0, σ)) rfl ?_
  refine px_W.cE (as := [.int 2, .int 2, .int 5]) (st := []) (v := some (.int (bo (iB 2 2 5)))) (σ' := σ) rfl rfl rfl (t_in σ 2 2 5) ?_
  refine px_W.if_eq rfl (fun c5 => absurd c5 (by decide)) (fun c5 => ?_)
  refine px_W.run 5 (f' := (164, [some (.ref 40), some (.int 2), none], [.int (2 - 2), .ref 46])) (h' := (sh0, σ)) rfl ?_
  refine px_W.iald rfl rfl (i := 0) (by decide) (by decide) (by decide) ?_
  refine px_W.run 1 (f' := (170, [some (.ref 40), some (.int 2), none], [.int (σ 46 0)])) (h' := (sh0, σ)) rfl ?_
  exact px_W.iret rfl rfl ⟨rfl, rfl⟩
theorem tX_told_3 {L : Nat} {xs : Nat → Int32} (σ : px_Sg) : px_E L xs mX2_told [.ref 0, .int 3] σ (some (.int (σ 9 1))) σ := by
  show px_W L xs mX2_told (0, [some (.ref 0), some (.int 3)], []) (sh0, σ) _
  refine px_W.run 1 (f' := (1, [some (.ref 0), some (.int 3)], [.int 3])) (h' := (sh0, σ)) rfl ?_
  refine px_W.if_ne rfl (fun c1 => absurd c1 (by decide)) (fun c1 => ?_)
  refine px_W.run 2 (f' := (14, [some (.ref 0), some (.int 3)], [.int 1, .int 3])) (h' := (sh0, σ)) rfl ?_
  refine px_W.icmp_ne rfl (fun c2 => absurd c2 (by decide)) (fun c2 => ?_)
  refine px_W.run 2 (f' := (27, [some (.ref 0), some (.int 3)], [.int 2, .int 3])) (h' := (sh0, σ)) rfl ?_
  refine px_W.icmp_lt rfl (fun c3 => absurd c3 (by decide)) (fun c3 => ?_)
  refine px_W.run 3 (f' := (33, [some (.ref 0), some (.int 3)], [.int (3 - 2)])) (h' := (sh0, σ)) rfl ?_
  refine px_W.cE (as := [.int (3 - 2)]) (st := []) (v := some (.int (bo (i4 (3 - 2))))) (σ' := σ) rfl rfl rfl (tX_isColony σ (3 - 2)) ?_
  refine px_W.if_eq rfl (fun c4 => absurd c4 (by decide)) (fun c4 => ?_)
  refine px_W.run 6 (f' := (49, [some (.ref 0), some (.int 3)], [.int (3 - 2), .ref 9])) (h' := (sh0, σ)) rfl ?_
  refine px_W.iald rfl rfl (i := 1) (by decide) (by decide) (by decide) ?_
  exact px_W.iret rfl rfl ⟨rfl, rfl⟩
theorem tM_told_3 {L : Nat} {xs : Nat → Int32} (σ : px_Sg) : px_E L xs mX3_told [.ref 40, .int 3] σ (some (.int (σ 46 1))) σ := by
  show px_W L xs mX3_told (0, [some (.ref 40), some (.int 3), none], []) (sh0, σ) _
  refine px_W.run 2 (f' := (3, [some (.ref 40), some (.int 3), none], [.int 100, .int 3])) (h' := (sh0, σ)) rfl ?_
  refine px_W.icmp_lt rfl (fun c1 => ?_) (fun c1 => absurd (by decide) c1)
  refine px_W.run 2 (f' := (34, [some (.ref 40), some (.int 3), none], [.int 10, .int 3])) (h' := (sh0, σ)) rfl ?_
  refine px_W.icmp_lt rfl (fun c2 => ?_) (fun c2 => absurd (by decide) c2)
  refine px_W.run 1 (f' := (126, [some (.ref 40), some (.int 3), none], [.int 3])) (h' := (sh0, σ)) rfl ?_
  refine px_W.if_ne rfl (fun c3 => absurd c3 (by decide)) (fun c3 => ?_)
  refine px_W.run 2 (f' := (138, [some (.ref 40), some (.int 3), none], [.int 1, .int 3])) (h' := (sh0, σ)) rfl ?_
  refine px_W.icmp_ne rfl (fun c4 => absurd c4 (by decide)) (fun c4 => ?_)
  refine px_W.run 3 (f' := (151, [some (.ref 40), some (.int 3), none], [.int 5, .int 2, .int 3])) (h' := (sh0, σ)) rfl ?_
  refine px_W.cE (as := [.int 3, .int 2, .int 5]) (st := []) (v := some (.int (bo (iB 3 2 5)))) (σ' := σ) rfl rfl rfl (t_in σ 3 2 5) ?_
  refine px_W.if_eq rfl (fun c5 => absurd c5 (by decide)) (fun c5 => ?_)
  refine px_W.run 5 (f' := (164, [some (.ref 40), some (.int 3), none], [.int (3 - 2), .ref 46])) (h' := (sh0, σ)) rfl ?_
  refine px_W.iald rfl rfl (i := 1) (by decide) (by decide) (by decide) ?_
  refine px_W.run 1 (f' := (170, [some (.ref 40), some (.int 3), none], [.int (σ 46 1)])) (h' := (sh0, σ)) rfl ?_
  exact px_W.iret rfl rfl ⟨rfl, rfl⟩
theorem tX_told_4 {L : Nat} {xs : Nat → Int32} (σ : px_Sg) : px_E L xs mX2_told [.ref 0, .int 4] σ (some (.int (σ 9 2))) σ := by
  show px_W L xs mX2_told (0, [some (.ref 0), some (.int 4)], []) (sh0, σ) _
  refine px_W.run 1 (f' := (1, [some (.ref 0), some (.int 4)], [.int 4])) (h' := (sh0, σ)) rfl ?_
  refine px_W.if_ne rfl (fun c1 => absurd c1 (by decide)) (fun c1 => ?_)
  refine px_W.run 2 (f' := (14, [some (.ref 0), some (.int 4)], [.int 1, .int 4])) (h' := (sh0, σ)) rfl ?_
  refine px_W.icmp_ne rfl (fun c2 => absurd c2 (by decide)) (fun c2 => ?_)
  refine px_W.run 2 (f' := (27, [some (.ref 0), some (.int 4)], [.int 2, .int 4])) (h' := (sh0, σ)) rfl ?_
  refine px_W.icmp_lt rfl (fun c3 => absurd c3 (by decide)) (fun c3 => ?_)
  refine px_W.run 3 (f' := (33, [some (.ref 0), some (.int 4)], [.int (4 - 2)])) (h' := (sh0, σ)) rfl ?_
  refine px_W.cE (as := [.int (4 - 2)]) (st := []) (v := some (.int (bo (i4 (4 - 2))))) (σ' := σ) rfl rfl rfl (tX_isColony σ (4 - 2)) ?_
  refine px_W.if_eq rfl (fun c4 => absurd c4 (by decide)) (fun c4 => ?_)
  refine px_W.run 6 (f' := (49, [some (.ref 0), some (.int 4)], [.int (4 - 2), .ref 9])) (h' := (sh0, σ)) rfl ?_
  refine px_W.iald rfl rfl (i := 2) (by decide) (by decide) (by decide) ?_
  exact px_W.iret rfl rfl ⟨rfl, rfl⟩
theorem tM_told_4 {L : Nat} {xs : Nat → Int32} (σ : px_Sg) : px_E L xs mX3_told [.ref 40, .int 4] σ (some (.int (σ 46 2))) σ := by
  show px_W L xs mX3_told (0, [some (.ref 40), some (.int 4), none], []) (sh0, σ) _
  refine px_W.run 2 (f' := (3, [some (.ref 40), some (.int 4), none], [.int 100, .int 4])) (h' := (sh0, σ)) rfl ?_
  refine px_W.icmp_lt rfl (fun c1 => ?_) (fun c1 => absurd (by decide) c1)
  refine px_W.run 2 (f' := (34, [some (.ref 40), some (.int 4), none], [.int 10, .int 4])) (h' := (sh0, σ)) rfl ?_
  refine px_W.icmp_lt rfl (fun c2 => ?_) (fun c2 => absurd (by decide) c2)
  refine px_W.run 1 (f' := (126, [some (.ref 40), some (.int 4), none], [.int 4])) (h' := (sh0, σ)) rfl ?_
  refine px_W.if_ne rfl (fun c3 => absurd c3 (by decide)) (fun c3 => ?_)
  refine px_W.run 2 (f' := (138, [some (.ref 40), some (.int 4), none], [.int 1, .int 4])) (h' := (sh0, σ)) rfl ?_
  refine px_W.icmp_ne rfl (fun c4 => absurd c4 (by decide)) (fun c4 => ?_)
  refine px_W.run 3 (f' := (151, [some (.ref 40), some (.int 4), none], [.int 5, .int 2, .int 4])) (h' := (sh0, σ)) rfl ?_
  refine px_W.cE (as := [.int 4, .int 2, .int 5]) (st := []) (v := some (.int (bo (iB 4 2 5)))) (σ' := σ) rfl rfl rfl (t_in σ 4 2 5) ?_
  refine px_W.if_eq rfl (fun c5 => absurd c5 (by decide)) (fun c5 => ?_)
  refine px_W.run 5 (f' := (164, [some (.ref 40), some (.int 4), none], [.int (4 - 2), .ref 46])) (h' := (sh0, σ)) rfl ?_
  refine px_W.iald rfl rfl (i := 2) (by decide) (by decide) (by decide) ?_
  refine px_W.run 1 (f' := (170, [some (.ref 40), some (.int 4), none], [.int (σ 46 2)])) (h' := (sh0, σ)) rfl ?_
  exact px_W.iret rfl rfl ⟨rfl, rfl⟩
theorem tX_told_5 {L : Nat} {xs : Nat → Int32} (σ : px_Sg) : px_E L xs mX2_told [.ref 0, .int 5] σ (some (.int (σ 9 3))) σ := by
  show px_W L xs mX2_told (0, [some (.ref 0), some (.int 5)], []) (sh0, σ) _
  refine px_W.run 1 (f' := (1, [some (.ref 0), some (.int 5)], [.int 5])) (h' := (sh0, σ)) rfl ?_
  refine px_W.if_ne rfl (fun c1 => absurd c1 (by decide)) (fun c1 => ?_)
  refine px_W.run 2 (f' := (14, [some (.ref 0), some (.int 5)], [.int 1, .int 5])) (h' := (sh0, σ)) rfl ?_
  refine px_W.icmp_ne rfl (fun c2 => absurd c2 (by decide)) (fun c2 => ?_)
  refine px_W.run 2 (f' := (27, [some (.ref 0), some (.int 5)], [.int 2, .int 5])) (h' := (sh0, σ)) rfl ?_
  refine px_W.icmp_lt rfl (fun c3 => absurd c3 (by decide)) (fun c3 => ?_)
  refine px_W.run 3 (f' := (33, [some (.ref 0), some (.int 5)], [.int (5 - 2)])) (h' := (sh0, σ)) rfl ?_
  refine px_W.cE (as := [.int (5 - 2)]) (st := []) (v := some (.int (bo (i4 (5 - 2))))) (σ' := σ) rfl rfl rfl (tX_isColony σ (5 - 2)) ?_
  refine px_W.if_eq rfl (fun c4 => absurd c4 (by decide)) (fun c4 => ?_)
  refine px_W.run 6 (f' := (49, [some (.ref 0), some (.int 5)], [.int (5 - 2), .ref 9])) (h' := (sh0, σ)) rfl ?_
  refine px_W.iald rfl rfl (i := 3) (by decide) (by decide) (by decide) ?_
  exact px_W.iret rfl rfl ⟨rfl, rfl⟩
theorem tM_told_5 {L : Nat} {xs : Nat → Int32} (σ : px_Sg) : px_E L xs mX3_told [.ref 40, .int 5] σ (some (.int (σ 46 3))) σ := by
  show px_W L xs mX3_told (0, [some (.ref 40), some (.int 5), none], []) (sh0, σ) _
  refine px_W.run 2 (f' := (3, [some (.ref 40), some (.int 5), none], [.int 100, .int 5])) (h' := (sh0, σ)) rfl ?_
  refine px_W.icmp_lt rfl (fun c1 => ?_) (fun c1 => absurd (by decide) c1)
  refine px_W.run 2 (f' := (34, [some (.ref 40), some (.int 5), none], [.int 10, .int 5])) (h' := (sh0, σ)) rfl ?_
  refine px_W.icmp_lt rfl (fun c2 => ?_) (fun c2 => absurd (by decide) c2)
  refine px_W.run 1 (f' := (126, [some (.ref 40), some (.int 5), none], [.int 5])) (h' := (sh0, σ)) rfl ?_
  refine px_W.if_ne rfl (fun c3 => absurd c3 (by decide)) (fun c3 => ?_)
  refine px_W.run 2 (f' := (138, [some (.ref 40), some (.int 5), none], [.int 1, .int 5])) (h' := (sh0, σ)) rfl ?_
  refine px_W.icmp_ne rfl (fun c4 => absurd c4 (by decide)) (fun c4 => ?_)
  refine px_W.run 3 (f' := (151, [some (.ref 40), some (.int 5), none], [.int 5, .int 2, .int 5])) (h' := (sh0, σ)) rfl ?_
  refine px_W.cE (as := [.int 5, .int 2, .int 5]) (st := []) (v := some (.int (bo (iB 5 2 5)))) (σ' := σ) rfl rfl rfl (t_in σ 5 2 5) ?_
  refine px_W.if_eq rfl (fun c5 => absurd c5 (by decide)) (fun c5 => ?_)
  refine px_W.run 5 (f' := (164, [some (.ref 40), some (.int 5), none], [.int (5 - 2), .ref 46])) (h' := (sh0, σ)) rfl ?_
  refine px_W.iald rfl rfl (i := 3) (by decide) (by decide) (by decide) ?_
  refine px_W.run 1 (f' := (170, [some (.ref 40), some (.int 5), none], [.int (σ 46 3)])) (h' := (sh0, σ)) rfl ?_
  exact px_W.iret rfl rfl ⟨rfl, rfl⟩
theorem tX_toldP0 {L : Nat} {xs : Nat → Int32} (σ : px_Sg) {k : Nat} (hk : k < 8) : px_E L xs mX2_told [.ref 0, .int (nI (10 * (k + 1) + 0))] σ (some (.int (σ 2 k))) σ := by
  show px_W L xs mX2_told (0, [some (.ref 0), some (.int (nI (10 * (k + 1) + 0)))], []) (sh0, σ) _
  refine px_W.run 1 (f' := (1, [some (.ref 0), some (.int (nI (10 * (k + 1) + 0)))], [.int (nI (10 * (k + 1) + 0))])) (h' := (sh0, σ)) rfl ?_
  refine px_W.if_ne rfl (fun c1 => absurd c1 (tn_ne k (c := 0) (by omega))) (fun c1 => ?_)
  refine px_W.run 2 (f' := (14, [some (.ref 0), some (.int (nI (10 * (k + 1) + 0)))], [.int 1, .int (nI (10 * (k + 1) + 0))])) (h' := (sh0, σ)) rfl ?_
  refine px_W.icmp_ne rfl (fun c2 => absurd c2 (tn_ne k (c := 1) (by omega))) (fun c2 => ?_)
  refine px_W.run 2 (f' := (27, [some (.ref 0), some (.int (nI (10 * (k + 1) + 0)))], [.int 2, .int (nI (10 * (k + 1) + 0))])) (h' := (sh0, σ)) rfl ?_
  refine px_W.icmp_lt rfl (fun c3 => absurd c3 (tn_ge k (c := 2) (by omega))) (fun c3 => ?_)
  refine px_W.run 3 (f' := (33, [some (.ref 0), some (.int (nI (10 * (k + 1) + 0)))], [.int ((nI (10 * (k + 1) + 0)) - 2)])) (h' := (sh0, σ)) rfl ?_
  refine px_W.cE (as := [.int ((nI (10 * (k + 1) + 0)) - 2)]) (st := []) (v := some (.int (bo (i4 ((nI (10 * (k + 1) + 0)) - 2))))) (σ' := σ) rfl rfl rfl (tX_isColony σ ((nI (10 * (k + 1) + 0)) - 2)) ?_
  refine px_W.if_eq rfl (fun c4 => ?_) (fun c4 => absurd (by rw [td_c k 0 (by omega)]; decide) c4)
  refine px_W.run 2 (f' := (54, [some (.ref 0), some (.int (nI (10 * (k + 1) + 0)))], [.int 10, .int (nI (10 * (k + 1) + 0))])) (h' := (sh0, σ)) rfl ?_
  refine px_W.icmp_lt rfl (fun c5 => absurd c5 (tn_ge k (c := 10) (by omega))) (fun c5 => ?_)
  refine px_W.run 2 (f' := (60, [some (.ref 0), some (.int (nI (10 * (k + 1) + 0)))], [.int 10, .int (nI (10 * (k + 1) + 0))])) (h' := (sh0, σ)) rfl ?_
  refine px_W.idiv rfl (by decide) ?_
  refine px_W.run 2 (f' := (63, [some (.ref 0), some (.int (nI (10 * (k + 1) + 0)))], [.int (((nI (10 * (k + 1) + 0)) / 10) - 1)])) (h' := (sh0, σ)) rfl ?_
  refine px_W.to (f' := (63, [some (.ref 0), some (.int (nI (10 * (k + 1) + 0)))], [.int (cI k)])) (h' := (sh0, σ)) (by rw [td_k k (by omega) (by omega)]) ?_
  refine px_W.cE (as := [.int (cI k)]) (st := []) (v := some (.int (bo (i8 (cI k))))) (σ' := σ) rfl rfl rfl (t_isOfEight σ (cI k)) ?_
  refine px_W.if_eq rfl (fun c6 => absurd c6 (by rw [i8_k k hk]; decide)) (fun c6 => ?_)
  refine px_W.run 4 (f' := (76, [some (.ref 0), some (.int (nI (10 * (k + 1) + 0)))], [.int 10, .int (nI (10 * (k + 1) + 0)), .ref 1])) (h' := (sh0, σ)) rfl ?_
  refine px_W.idiv rfl (by decide) ?_
  refine px_W.run 4 (f' := (82, [some (.ref 0), some (.int (nI (10 * (k + 1) + 0)))], [.int 10, .int (nI (10 * (k + 1) + 0)), .int (((nI (10 * (k + 1) + 0)) / 10) - 1), .ref 1])) (h' := (sh0, σ)) rfl ?_
  refine px_W.irem rfl (by decide) ?_
  refine px_W.to (f' := (83, [some (.ref 0), some (.int (nI (10 * (k + 1) + 0)))], [.int 0, .int (cI k), .ref 1])) (h' := (sh0, σ)) (by rw [td_k k (by omega) (by omega), td_d k (by omega) (by omega)]; rfl) ?_
  refine px_W.cE (as := [.ref 1, .int (cI k), .int 0]) (st := []) (v := some (.int (σ 2 k))) (σ' := σ) rfl rfl rfl (t1_tellPart0 σ hk) ?_
  exact px_W.iret rfl rfl ⟨rfl, rfl⟩
theorem tM_toldP0 {L : Nat} {xs : Nat → Int32} (σ : px_Sg) {k : Nat} (hk : k < 8) : px_E L xs mX3_told [.ref 40, .int (nI (10 * (k + 1) + 0))] σ (some (.int (σ 41 k))) σ := by
  show px_W L xs mX3_told (0, [some (.ref 40), some (.int (nI (10 * (k + 1) + 0))), none], []) (sh0, σ) _
  refine px_W.run 2 (f' := (3, [some (.ref 40), some (.int (nI (10 * (k + 1) + 0))), none], [.int 100, .int (nI (10 * (k + 1) + 0))])) (h' := (sh0, σ)) rfl ?_
  refine px_W.icmp_lt rfl (fun c1 => ?_) (fun c1 => absurd (tn_lt k (c := 100) (by omega)) c1)
  refine px_W.run 2 (f' := (34, [some (.ref 40), some (.int (nI (10 * (k + 1) + 0))), none], [.int 10, .int (nI (10 * (k + 1) + 0))])) (h' := (sh0, σ)) rfl ?_
  refine px_W.icmp_lt rfl (fun c2 => absurd c2 (tn_ge k (c := 10) (by omega))) (fun c2 => ?_)
  refine px_W.run 2 (f' := (40, [some (.ref 40), some (.int (nI (10 * (k + 1) + 0))), none], [.int 10, .int (nI (10 * (k + 1) + 0))])) (h' := (sh0, σ)) rfl ?_
  refine px_W.idiv rfl (by decide) ?_
  refine px_W.run 2 (f' := (43, [some (.ref 40), some (.int (nI (10 * (k + 1) + 0))), none], [.int (((nI (10 * (k + 1) + 0)) / 10) - 1)])) (h' := (sh0, σ)) rfl ?_
  refine px_W.to (f' := (43, [some (.ref 40), some (.int (nI (10 * (k + 1) + 0))), none], [.int (cI k)])) (h' := (sh0, σ)) (by rw [td_k k (by omega) (by omega)]) ?_
  refine px_W.run 2 (f' := (45, [some (.ref 40), some (.int (nI (10 * (k + 1) + 0))), some (.int (cI k))], [.int (cI k)])) (h' := (sh0, σ)) rfl ?_
  refine px_W.cE (as := [.int (cI k)]) (st := []) (v := some (.int (bo (iB (cI k) 0 7)))) (σ' := σ) rfl rfl rfl (t_isOne σ (cI k)) ?_
  refine px_W.if_ne rfl (fun c3 => absurd c3 (by rw [i8_iB, i8_k k hk]; decide)) (fun c3 => ?_)
  refine px_W.run 2 (f' := (57, [some (.ref 40), some (.int (nI (10 * (k + 1) + 0))), some (.int (cI k))], [.int 10, .int (nI (10 * (k + 1) + 0))])) (h' := (sh0, σ)) rfl ?_
  refine px_W.irem rfl (by decide) ?_
  refine px_W.to (f' := (58, [some (.ref 40), some (.int (nI (10 * (k + 1) + 0))), some (.int (cI k))], [.int 0])) (h' := (sh0, σ)) (by rw [td_d k (by omega) (by omega)]; rfl) ?_
  refine px_W.tsw (tg := 84) rfl (by decide) ?_
  refine px_W.run 3 (f' := (89, [some (.ref 40), some (.int (nI (10 * (k + 1) + 0))), some (.int (cI k))], [.int (cI k), .ref 41])) (h' := (sh0, σ)) rfl ?_
  refine px_W.iald rfl rfl (i := k) (cI_n _) (hk) (by decide) ?_
  exact px_W.iret rfl rfl ⟨rfl, rfl⟩
theorem tX_toldP1 {L : Nat} {xs : Nat → Int32} (σ : px_Sg) {k : Nat} (hk : k < 8) : px_E L xs mX2_told [.ref 0, .int (nI (10 * (k + 1) + 1))] σ (some (.int (σ 3 k))) σ := by
  show px_W L xs mX2_told (0, [some (.ref 0), some (.int (nI (10 * (k + 1) + 1)))], []) (sh0, σ) _
  refine px_W.run 1 (f' := (1, [some (.ref 0), some (.int (nI (10 * (k + 1) + 1)))], [.int (nI (10 * (k + 1) + 1))])) (h' := (sh0, σ)) rfl ?_
  refine px_W.if_ne rfl (fun c1 => absurd c1 (tn_ne k (c := 0) (by omega))) (fun c1 => ?_)
  refine px_W.run 2 (f' := (14, [some (.ref 0), some (.int (nI (10 * (k + 1) + 1)))], [.int 1, .int (nI (10 * (k + 1) + 1))])) (h' := (sh0, σ)) rfl ?_
  refine px_W.icmp_ne rfl (fun c2 => absurd c2 (tn_ne k (c := 1) (by omega))) (fun c2 => ?_)
  refine px_W.run 2 (f' := (27, [some (.ref 0), some (.int (nI (10 * (k + 1) + 1)))], [.int 2, .int (nI (10 * (k + 1) + 1))])) (h' := (sh0, σ)) rfl ?_
  refine px_W.icmp_lt rfl (fun c3 => absurd c3 (tn_ge k (c := 2) (by omega))) (fun c3 => ?_)
  refine px_W.run 3 (f' := (33, [some (.ref 0), some (.int (nI (10 * (k + 1) + 1)))], [.int ((nI (10 * (k + 1) + 1)) - 2)])) (h' := (sh0, σ)) rfl ?_
  refine px_W.cE (as := [.int ((nI (10 * (k + 1) + 1)) - 2)]) (st := []) (v := some (.int (bo (i4 ((nI (10 * (k + 1) + 1)) - 2))))) (σ' := σ) rfl rfl rfl (tX_isColony σ ((nI (10 * (k + 1) + 1)) - 2)) ?_
  refine px_W.if_eq rfl (fun c4 => ?_) (fun c4 => absurd (by rw [td_c k 1 (by omega)]; decide) c4)
  refine px_W.run 2 (f' := (54, [some (.ref 0), some (.int (nI (10 * (k + 1) + 1)))], [.int 10, .int (nI (10 * (k + 1) + 1))])) (h' := (sh0, σ)) rfl ?_
  refine px_W.icmp_lt rfl (fun c5 => absurd c5 (tn_ge k (c := 10) (by omega))) (fun c5 => ?_)
  refine px_W.run 2 (f' := (60, [some (.ref 0), some (.int (nI (10 * (k + 1) + 1)))], [.int 10, .int (nI (10 * (k + 1) + 1))])) (h' := (sh0, σ)) rfl ?_
  refine px_W.idiv rfl (by decide) ?_
  refine px_W.run 2 (f' := (63, [some (.ref 0), some (.int (nI (10 * (k + 1) + 1)))], [.int (((nI (10 * (k + 1) + 1)) / 10) - 1)])) (h' := (sh0, σ)) rfl ?_
  refine px_W.to (f' := (63, [some (.ref 0), some (.int (nI (10 * (k + 1) + 1)))], [.int (cI k)])) (h' := (sh0, σ)) (by rw [td_k k (by omega) (by omega)]) ?_
  refine px_W.cE (as := [.int (cI k)]) (st := []) (v := some (.int (bo (i8 (cI k))))) (σ' := σ) rfl rfl rfl (t_isOfEight σ (cI k)) ?_
  refine px_W.if_eq rfl (fun c6 => absurd c6 (by rw [i8_k k hk]; decide)) (fun c6 => ?_)
  refine px_W.run 4 (f' := (76, [some (.ref 0), some (.int (nI (10 * (k + 1) + 1)))], [.int 10, .int (nI (10 * (k + 1) + 1)), .ref 1])) (h' := (sh0, σ)) rfl ?_
  refine px_W.idiv rfl (by decide) ?_
  refine px_W.run 4 (f' := (82, [some (.ref 0), some (.int (nI (10 * (k + 1) + 1)))], [.int 10, .int (nI (10 * (k + 1) + 1)), .int (((nI (10 * (k + 1) + 1)) / 10) - 1), .ref 1])) (h' := (sh0, σ)) rfl ?_
  refine px_W.irem rfl (by decide) ?_
  refine px_W.to (f' := (83, [some (.ref 0), some (.int (nI (10 * (k + 1) + 1)))], [.int 1, .int (cI k), .ref 1])) (h' := (sh0, σ)) (by rw [td_k k (by omega) (by omega), td_d k (by omega) (by omega)]; rfl) ?_
  refine px_W.cE (as := [.ref 1, .int (cI k), .int 1]) (st := []) (v := some (.int (σ 3 k))) (σ' := σ) rfl rfl rfl (t1_tellPart1 σ hk) ?_
  exact px_W.iret rfl rfl ⟨rfl, rfl⟩
theorem tM_toldP1 {L : Nat} {xs : Nat → Int32} (σ : px_Sg) {k : Nat} (hk : k < 8) : px_E L xs mX3_told [.ref 40, .int (nI (10 * (k + 1) + 1))] σ (some (.int (σ 42 k))) σ := by
  show px_W L xs mX3_told (0, [some (.ref 40), some (.int (nI (10 * (k + 1) + 1))), none], []) (sh0, σ) _
  refine px_W.run 2 (f' := (3, [some (.ref 40), some (.int (nI (10 * (k + 1) + 1))), none], [.int 100, .int (nI (10 * (k + 1) + 1))])) (h' := (sh0, σ)) rfl ?_
  refine px_W.icmp_lt rfl (fun c1 => ?_) (fun c1 => absurd (tn_lt k (c := 100) (by omega)) c1)
  refine px_W.run 2 (f' := (34, [some (.ref 40), some (.int (nI (10 * (k + 1) + 1))), none], [.int 10, .int (nI (10 * (k + 1) + 1))])) (h' := (sh0, σ)) rfl ?_
  refine px_W.icmp_lt rfl (fun c2 => absurd c2 (tn_ge k (c := 10) (by omega))) (fun c2 => ?_)
  refine px_W.run 2 (f' := (40, [some (.ref 40), some (.int (nI (10 * (k + 1) + 1))), none], [.int 10, .int (nI (10 * (k + 1) + 1))])) (h' := (sh0, σ)) rfl ?_
  refine px_W.idiv rfl (by decide) ?_
  refine px_W.run 2 (f' := (43, [some (.ref 40), some (.int (nI (10 * (k + 1) + 1))), none], [.int (((nI (10 * (k + 1) + 1)) / 10) - 1)])) (h' := (sh0, σ)) rfl ?_
  refine px_W.to (f' := (43, [some (.ref 40), some (.int (nI (10 * (k + 1) + 1))), none], [.int (cI k)])) (h' := (sh0, σ)) (by rw [td_k k (by omega) (by omega)]) ?_
  refine px_W.run 2 (f' := (45, [some (.ref 40), some (.int (nI (10 * (k + 1) + 1))), some (.int (cI k))], [.int (cI k)])) (h' := (sh0, σ)) rfl ?_
  refine px_W.cE (as := [.int (cI k)]) (st := []) (v := some (.int (bo (iB (cI k) 0 7)))) (σ' := σ) rfl rfl rfl (t_isOne σ (cI k)) ?_
  refine px_W.if_ne rfl (fun c3 => absurd c3 (by rw [i8_iB, i8_k k hk]; decide)) (fun c3 => ?_)
  refine px_W.run 2 (f' := (57, [some (.ref 40), some (.int (nI (10 * (k + 1) + 1))), some (.int (cI k))], [.int 10, .int (nI (10 * (k + 1) + 1))])) (h' := (sh0, σ)) rfl ?_
  refine px_W.irem rfl (by decide) ?_
  refine px_W.to (f' := (58, [some (.ref 40), some (.int (nI (10 * (k + 1) + 1))), some (.int (cI k))], [.int 1])) (h' := (sh0, σ)) (by rw [td_d k (by omega) (by omega)]; rfl) ?_
  refine px_W.tsw (tg := 91) rfl (by decide) ?_
  refine px_W.run 3 (f' := (96, [some (.ref 40), some (.int (nI (10 * (k + 1) + 1))), some (.int (cI k))], [.int (cI k), .ref 42])) (h' := (sh0, σ)) rfl ?_
  refine px_W.iald rfl rfl (i := k) (cI_n _) (hk) (by decide) ?_
  exact px_W.iret rfl rfl ⟨rfl, rfl⟩
theorem tX_toldP2 {L : Nat} {xs : Nat → Int32} (σ : px_Sg) {k : Nat} (hk : k < 8) : px_E L xs mX2_told [.ref 0, .int (nI (10 * (k + 1) + 2))] σ (some (.int (σ 4 k))) σ := by
  show px_W L xs mX2_told (0, [some (.ref 0), some (.int (nI (10 * (k + 1) + 2)))], []) (sh0, σ) _
  refine px_W.run 1 (f' := (1, [some (.ref 0), some (.int (nI (10 * (k + 1) + 2)))], [.int (nI (10 * (k + 1) + 2))])) (h' := (sh0, σ)) rfl ?_
  refine px_W.if_ne rfl (fun c1 => absurd c1 (tn_ne k (c := 0) (by omega))) (fun c1 => ?_)
  refine px_W.run 2 (f' := (14, [some (.ref 0), some (.int (nI (10 * (k + 1) + 2)))], [.int 1, .int (nI (10 * (k + 1) + 2))])) (h' := (sh0, σ)) rfl ?_
  refine px_W.icmp_ne rfl (fun c2 => absurd c2 (tn_ne k (c := 1) (by omega))) (fun c2 => ?_)
  refine px_W.run 2 (f' := (27, [some (.ref 0), some (.int (nI (10 * (k + 1) + 2)))], [.int 2, .int (nI (10 * (k + 1) + 2))])) (h' := (sh0, σ)) rfl ?_
  refine px_W.icmp_lt rfl (fun c3 => absurd c3 (tn_ge k (c := 2) (by omega))) (fun c3 => ?_)
  refine px_W.run 3 (f' := (33, [some (.ref 0), some (.int (nI (10 * (k + 1) + 2)))], [.int ((nI (10 * (k + 1) + 2)) - 2)])) (h' := (sh0, σ)) rfl ?_
  refine px_W.cE (as := [.int ((nI (10 * (k + 1) + 2)) - 2)]) (st := []) (v := some (.int (bo (i4 ((nI (10 * (k + 1) + 2)) - 2))))) (σ' := σ) rfl rfl rfl (tX_isColony σ ((nI (10 * (k + 1) + 2)) - 2)) ?_
  refine px_W.if_eq rfl (fun c4 => ?_) (fun c4 => absurd (by rw [td_c k 2 (by omega)]; decide) c4)
  refine px_W.run 2 (f' := (54, [some (.ref 0), some (.int (nI (10 * (k + 1) + 2)))], [.int 10, .int (nI (10 * (k + 1) + 2))])) (h' := (sh0, σ)) rfl ?_
  refine px_W.icmp_lt rfl (fun c5 => absurd c5 (tn_ge k (c := 10) (by omega))) (fun c5 => ?_)
  refine px_W.run 2 (f' := (60, [some (.ref 0), some (.int (nI (10 * (k + 1) + 2)))], [.int 10, .int (nI (10 * (k + 1) + 2))])) (h' := (sh0, σ)) rfl ?_
  refine px_W.idiv rfl (by decide) ?_
  refine px_W.run 2 (f' := (63, [some (.ref 0), some (.int (nI (10 * (k + 1) + 2)))], [.int (((nI (10 * (k + 1) + 2)) / 10) - 1)])) (h' := (sh0, σ)) rfl ?_
  refine px_W.to (f' := (63, [some (.ref 0), some (.int (nI (10 * (k + 1) + 2)))], [.int (cI k)])) (h' := (sh0, σ)) (by rw [td_k k (by omega) (by omega)]) ?_
  refine px_W.cE (as := [.int (cI k)]) (st := []) (v := some (.int (bo (i8 (cI k))))) (σ' := σ) rfl rfl rfl (t_isOfEight σ (cI k)) ?_
  refine px_W.if_eq rfl (fun c6 => absurd c6 (by rw [i8_k k hk]; decide)) (fun c6 => ?_)
  refine px_W.run 4 (f' := (76, [some (.ref 0), some (.int (nI (10 * (k + 1) + 2)))], [.int 10, .int (nI (10 * (k + 1) + 2)), .ref 1])) (h' := (sh0, σ)) rfl ?_
  refine px_W.idiv rfl (by decide) ?_
  refine px_W.run 4 (f' := (82, [some (.ref 0), some (.int (nI (10 * (k + 1) + 2)))], [.int 10, .int (nI (10 * (k + 1) + 2)), .int (((nI (10 * (k + 1) + 2)) / 10) - 1), .ref 1])) (h' := (sh0, σ)) rfl ?_
  refine px_W.irem rfl (by decide) ?_
  refine px_W.to (f' := (83, [some (.ref 0), some (.int (nI (10 * (k + 1) + 2)))], [.int 2, .int (cI k), .ref 1])) (h' := (sh0, σ)) (by rw [td_k k (by omega) (by omega), td_d k (by omega) (by omega)]; rfl) ?_
  refine px_W.cE (as := [.ref 1, .int (cI k), .int 2]) (st := []) (v := some (.int (σ 4 k))) (σ' := σ) rfl rfl rfl (t1_tellPart2 σ hk) ?_
  exact px_W.iret rfl rfl ⟨rfl, rfl⟩
theorem tM_toldP2 {L : Nat} {xs : Nat → Int32} (σ : px_Sg) {k : Nat} (hk : k < 8) : px_E L xs mX3_told [.ref 40, .int (nI (10 * (k + 1) + 2))] σ (some (.int (σ 43 k))) σ := by
  show px_W L xs mX3_told (0, [some (.ref 40), some (.int (nI (10 * (k + 1) + 2))), none], []) (sh0, σ) _
  refine px_W.run 2 (f' := (3, [some (.ref 40), some (.int (nI (10 * (k + 1) + 2))), none], [.int 100, .int (nI (10 * (k + 1) + 2))])) (h' := (sh0, σ)) rfl ?_
  refine px_W.icmp_lt rfl (fun c1 => ?_) (fun c1 => absurd (tn_lt k (c := 100) (by omega)) c1)
  refine px_W.run 2 (f' := (34, [some (.ref 40), some (.int (nI (10 * (k + 1) + 2))), none], [.int 10, .int (nI (10 * (k + 1) + 2))])) (h' := (sh0, σ)) rfl ?_
  refine px_W.icmp_lt rfl (fun c2 => absurd c2 (tn_ge k (c := 10) (by omega))) (fun c2 => ?_)
  refine px_W.run 2 (f' := (40, [some (.ref 40), some (.int (nI (10 * (k + 1) + 2))), none], [.int 10, .int (nI (10 * (k + 1) + 2))])) (h' := (sh0, σ)) rfl ?_
  refine px_W.idiv rfl (by decide) ?_
  refine px_W.run 2 (f' := (43, [some (.ref 40), some (.int (nI (10 * (k + 1) + 2))), none], [.int (((nI (10 * (k + 1) + 2)) / 10) - 1)])) (h' := (sh0, σ)) rfl ?_
  refine px_W.to (f' := (43, [some (.ref 40), some (.int (nI (10 * (k + 1) + 2))), none], [.int (cI k)])) (h' := (sh0, σ)) (by rw [td_k k (by omega) (by omega)]) ?_
  refine px_W.run 2 (f' := (45, [some (.ref 40), some (.int (nI (10 * (k + 1) + 2))), some (.int (cI k))], [.int (cI k)])) (h' := (sh0, σ)) rfl ?_
  refine px_W.cE (as := [.int (cI k)]) (st := []) (v := some (.int (bo (iB (cI k) 0 7)))) (σ' := σ) rfl rfl rfl (t_isOne σ (cI k)) ?_
  refine px_W.if_ne rfl (fun c3 => absurd c3 (by rw [i8_iB, i8_k k hk]; decide)) (fun c3 => ?_)
  refine px_W.run 2 (f' := (57, [some (.ref 40), some (.int (nI (10 * (k + 1) + 2))), some (.int (cI k))], [.int 10, .int (nI (10 * (k + 1) + 2))])) (h' := (sh0, σ)) rfl ?_
  refine px_W.irem rfl (by decide) ?_
  refine px_W.to (f' := (58, [some (.ref 40), some (.int (nI (10 * (k + 1) + 2))), some (.int (cI k))], [.int 2])) (h' := (sh0, σ)) (by rw [td_d k (by omega) (by omega)]; rfl) ?_
  refine px_W.tsw (tg := 98) rfl (by decide) ?_
  refine px_W.run 3 (f' := (103, [some (.ref 40), some (.int (nI (10 * (k + 1) + 2))), some (.int (cI k))], [.int (cI k), .ref 43])) (h' := (sh0, σ)) rfl ?_
  refine px_W.iald rfl rfl (i := k) (cI_n _) (hk) (by decide) ?_
  exact px_W.iret rfl rfl ⟨rfl, rfl⟩
theorem tX_toldP3 {L : Nat} {xs : Nat → Int32} (σ : px_Sg) {k : Nat} (hk : k < 8) : px_E L xs mX2_told [.ref 0, .int (nI (10 * (k + 1) + 3))] σ (some (.int (σ 5 k))) σ := by
  show px_W L xs mX2_told (0, [some (.ref 0), some (.int (nI (10 * (k + 1) + 3)))], []) (sh0, σ) _
  refine px_W.run 1 (f' := (1, [some (.ref 0), some (.int (nI (10 * (k + 1) + 3)))], [.int (nI (10 * (k + 1) + 3))])) (h' := (sh0, σ)) rfl ?_
  refine px_W.if_ne rfl (fun c1 => absurd c1 (tn_ne k (c := 0) (by omega))) (fun c1 => ?_)
  refine px_W.run 2 (f' := (14, [some (.ref 0), some (.int (nI (10 * (k + 1) + 3)))], [.int 1, .int (nI (10 * (k + 1) + 3))])) (h' := (sh0, σ)) rfl ?_
  refine px_W.icmp_ne rfl (fun c2 => absurd c2 (tn_ne k (c := 1) (by omega))) (fun c2 => ?_)
  refine px_W.run 2 (f' := (27, [some (.ref 0), some (.int (nI (10 * (k + 1) + 3)))], [.int 2, .int (nI (10 * (k + 1) + 3))])) (h' := (sh0, σ)) rfl ?_
  refine px_W.icmp_lt rfl (fun c3 => absurd c3 (tn_ge k (c := 2) (by omega))) (fun c3 => ?_)
  refine px_W.run 3 (f' := (33, [some (.ref 0), some (.int (nI (10 * (k + 1) + 3)))], [.int ((nI (10 * (k + 1) + 3)) - 2)])) (h' := (sh0, σ)) rfl ?_
  refine px_W.cE (as := [.int ((nI (10 * (k + 1) + 3)) - 2)]) (st := []) (v := some (.int (bo (i4 ((nI (10 * (k + 1) + 3)) - 2))))) (σ' := σ) rfl rfl rfl (tX_isColony σ ((nI (10 * (k + 1) + 3)) - 2)) ?_
  refine px_W.if_eq rfl (fun c4 => ?_) (fun c4 => absurd (by rw [td_c k 3 (by omega)]; decide) c4)
  refine px_W.run 2 (f' := (54, [some (.ref 0), some (.int (nI (10 * (k + 1) + 3)))], [.int 10, .int (nI (10 * (k + 1) + 3))])) (h' := (sh0, σ)) rfl ?_
  refine px_W.icmp_lt rfl (fun c5 => absurd c5 (tn_ge k (c := 10) (by omega))) (fun c5 => ?_)
  refine px_W.run 2 (f' := (60, [some (.ref 0), some (.int (nI (10 * (k + 1) + 3)))], [.int 10, .int (nI (10 * (k + 1) + 3))])) (h' := (sh0, σ)) rfl ?_
  refine px_W.idiv rfl (by decide) ?_
  refine px_W.run 2 (f' := (63, [some (.ref 0), some (.int (nI (10 * (k + 1) + 3)))], [.int (((nI (10 * (k + 1) + 3)) / 10) - 1)])) (h' := (sh0, σ)) rfl ?_
  refine px_W.to (f' := (63, [some (.ref 0), some (.int (nI (10 * (k + 1) + 3)))], [.int (cI k)])) (h' := (sh0, σ)) (by rw [td_k k (by omega) (by omega)]) ?_
  refine px_W.cE (as := [.int (cI k)]) (st := []) (v := some (.int (bo (i8 (cI k))))) (σ' := σ) rfl rfl rfl (t_isOfEight σ (cI k)) ?_
  refine px_W.if_eq rfl (fun c6 => absurd c6 (by rw [i8_k k hk]; decide)) (fun c6 => ?_)
  refine px_W.run 4 (f' := (76, [some (.ref 0), some (.int (nI (10 * (k + 1) + 3)))], [.int 10, .int (nI (10 * (k + 1) + 3)), .ref 1])) (h' := (sh0, σ)) rfl ?_
  refine px_W.idiv rfl (by decide) ?_
  refine px_W.run 4 (f' := (82, [some (.ref 0), some (.int (nI (10 * (k + 1) + 3)))], [.int 10, .int (nI (10 * (k + 1) + 3)), .int (((nI (10 * (k + 1) + 3)) / 10) - 1), .ref 1])) (h' := (sh0, σ)) rfl ?_
  refine px_W.irem rfl (by decide) ?_
  refine px_W.to (f' := (83, [some (.ref 0), some (.int (nI (10 * (k + 1) + 3)))], [.int 3, .int (cI k), .ref 1])) (h' := (sh0, σ)) (by rw [td_k k (by omega) (by omega), td_d k (by omega) (by omega)]; rfl) ?_
  refine px_W.cE (as := [.ref 1, .int (cI k), .int 3]) (st := []) (v := some (.int (σ 5 k))) (σ' := σ) rfl rfl rfl (t1_tellPart3 σ hk) ?_
  exact px_W.iret rfl rfl ⟨rfl, rfl⟩
theorem tM_toldP3 {L : Nat} {xs : Nat → Int32} (σ : px_Sg) {k : Nat} (hk : k < 8) : px_E L xs mX3_told [.ref 40, .int (nI (10 * (k + 1) + 3))] σ (some (.int (σ 44 k))) σ := by
  show px_W L xs mX3_told (0, [some (.ref 40), some (.int (nI (10 * (k + 1) + 3))), none], []) (sh0, σ) _
  refine px_W.run 2 (f' := (3, [some (.ref 40), some (.int (nI (10 * (k + 1) + 3))), none], [.int 100, .int (nI (10 * (k + 1) + 3))])) (h' := (sh0, σ)) rfl ?_
  refine px_W.icmp_lt rfl (fun c1 => ?_) (fun c1 => absurd (tn_lt k (c := 100) (by omega)) c1)
  refine px_W.run 2 (f' := (34, [some (.ref 40), some (.int (nI (10 * (k + 1) + 3))), none], [.int 10, .int (nI (10 * (k + 1) + 3))])) (h' := (sh0, σ)) rfl ?_
  refine px_W.icmp_lt rfl (fun c2 => absurd c2 (tn_ge k (c := 10) (by omega))) (fun c2 => ?_)
  refine px_W.run 2 (f' := (40, [some (.ref 40), some (.int (nI (10 * (k + 1) + 3))), none], [.int 10, .int (nI (10 * (k + 1) + 3))])) (h' := (sh0, σ)) rfl ?_
  refine px_W.idiv rfl (by decide) ?_
  refine px_W.run 2 (f' := (43, [some (.ref 40), some (.int (nI (10 * (k + 1) + 3))), none], [.int (((nI (10 * (k + 1) + 3)) / 10) - 1)])) (h' := (sh0, σ)) rfl ?_
  refine px_W.to (f' := (43, [some (.ref 40), some (.int (nI (10 * (k + 1) + 3))), none], [.int (cI k)])) (h' := (sh0, σ)) (by rw [td_k k (by omega) (by omega)]) ?_
  refine px_W.run 2 (f' := (45, [some (.ref 40), some (.int (nI (10 * (k + 1) + 3))), some (.int (cI k))], [.int (cI k)])) (h' := (sh0, σ)) rfl ?_
  refine px_W.cE (as := [.int (cI k)]) (st := []) (v := some (.int (bo (iB (cI k) 0 7)))) (σ' := σ) rfl rfl rfl (t_isOne σ (cI k)) ?_
  refine px_W.if_ne rfl (fun c3 => absurd c3 (by rw [i8_iB, i8_k k hk]; decide)) (fun c3 => ?_)
  refine px_W.run 2 (f' := (57, [some (.ref 40), some (.int (nI (10 * (k + 1) + 3))), some (.int (cI k))], [.int 10, .int (nI (10 * (k + 1) + 3))])) (h' := (sh0, σ)) rfl ?_
  refine px_W.irem rfl (by decide) ?_
  refine px_W.to (f' := (58, [some (.ref 40), some (.int (nI (10 * (k + 1) + 3))), some (.int (cI k))], [.int 3])) (h' := (sh0, σ)) (by rw [td_d k (by omega) (by omega)]; rfl) ?_
  refine px_W.tsw (tg := 105) rfl (by decide) ?_
  refine px_W.run 2 (f' := (108, [some (.ref 40), some (.int (nI (10 * (k + 1) + 3))), some (.int (cI k))], [.int 10, .int (nI (10 * (k + 1) + 3))])) (h' := (sh0, σ)) rfl ?_
  refine px_W.irem rfl (by decide) ?_
  refine px_W.to (f' := (109, [some (.ref 40), some (.int (nI (10 * (k + 1) + 3))), some (.int (cI k))], [.int 3])) (h' := (sh0, σ)) (by rw [td_d k (by omega) (by omega)]; rfl) ?_
  refine px_W.run 1 (f' := (110, [some (.ref 40), some (.int (nI (10 * (k + 1) + 3))), some (.int (cI k))], [.int 3, .int 3])) (h' := (sh0, σ)) rfl ?_
  refine px_W.icmp_ne rfl (fun c4 => ?_) (fun c4 => absurd (by decide) c4)
  refine px_W.run 3 (f' := (118, [some (.ref 40), some (.int (nI (10 * (k + 1) + 3))), some (.int (cI k))], [.int (cI k), .ref 44])) (h' := (sh0, σ)) rfl ?_
  refine px_W.iald rfl rfl (i := k) (cI_n _) (hk) (by decide) ?_
  refine px_W.run 1 (f' := (124, [some (.ref 40), some (.int (nI (10 * (k + 1) + 3))), some (.int (cI k))], [.int (σ 44 k)])) (h' := (sh0, σ)) rfl ?_
  exact px_W.iret rfl rfl ⟨rfl, rfl⟩
theorem tX_toldPN {L : Nat} {xs : Nat → Int32} (σ : px_Sg) {k d : Nat} (hk : k < 8) (h4 : 4 ≤ d) (h10 : d < 10) : px_E L xs mX2_told [.ref 0, .int (nI (10 * (k + 1) + d))] σ (some (.int (-2))) σ := by
  show px_W L xs mX2_told (0, [some (.ref 0), some (.int (nI (10 * (k + 1) + d)))], []) (sh0, σ) _
  refine px_W.run 1 (f' := (1, [some (.ref 0), some (.int (nI (10 * (k + 1) + d)))], [.int (nI (10 * (k + 1) + d))])) (h' := (sh0, σ)) rfl ?_
  refine px_W.if_ne rfl (fun c1 => absurd c1 (tn_ned k d (c := 0) (by omega))) (fun c1 => ?_)
  refine px_W.run 2 (f' := (14, [some (.ref 0), some (.int (nI (10 * (k + 1) + d)))], [.int 1, .int (nI (10 * (k + 1) + d))])) (h' := (sh0, σ)) rfl ?_
  refine px_W.icmp_ne rfl (fun c2 => absurd c2 (tn_ned k d (c := 1) (by omega))) (fun c2 => ?_)
  refine px_W.run 2 (f' := (27, [some (.ref 0), some (.int (nI (10 * (k + 1) + d)))], [.int 2, .int (nI (10 * (k + 1) + d))])) (h' := (sh0, σ)) rfl ?_
  refine px_W.icmp_lt rfl (fun c3 => absurd c3 (tn_ged k d (c := 2) (by omega))) (fun c3 => ?_)
  refine px_W.run 3 (f' := (33, [some (.ref 0), some (.int (nI (10 * (k + 1) + d)))], [.int ((nI (10 * (k + 1) + d)) - 2)])) (h' := (sh0, σ)) rfl ?_
  refine px_W.cE (as := [.int ((nI (10 * (k + 1) + d)) - 2)]) (st := []) (v := some (.int (bo (i4 ((nI (10 * (k + 1) + d)) - 2))))) (σ' := σ) rfl rfl rfl (tX_isColony σ ((nI (10 * (k + 1) + d)) - 2)) ?_
  refine px_W.if_eq rfl (fun c4 => ?_) (fun c4 => absurd (by rw [td_c k d (by omega)]; decide) c4)
  refine px_W.run 2 (f' := (54, [some (.ref 0), some (.int (nI (10 * (k + 1) + d)))], [.int 10, .int (nI (10 * (k + 1) + d))])) (h' := (sh0, σ)) rfl ?_
  refine px_W.icmp_lt rfl (fun c5 => absurd c5 (tn_ged k d (c := 10) (by omega))) (fun c5 => ?_)
  refine px_W.run 2 (f' := (60, [some (.ref 0), some (.int (nI (10 * (k + 1) + d)))], [.int 10, .int (nI (10 * (k + 1) + d))])) (h' := (sh0, σ)) rfl ?_
  refine px_W.idiv rfl (by decide) ?_
  refine px_W.run 2 (f' := (63, [some (.ref 0), some (.int (nI (10 * (k + 1) + d)))], [.int (((nI (10 * (k + 1) + d)) / 10) - 1)])) (h' := (sh0, σ)) rfl ?_
  refine px_W.to (f' := (63, [some (.ref 0), some (.int (nI (10 * (k + 1) + d)))], [.int (cI k)])) (h' := (sh0, σ)) (by rw [td_k k (by omega) (by omega)]) ?_
  refine px_W.cE (as := [.int (cI k)]) (st := []) (v := some (.int (bo (i8 (cI k))))) (σ' := σ) rfl rfl rfl (t_isOfEight σ (cI k)) ?_
  refine px_W.if_eq rfl (fun c6 => absurd c6 (by rw [i8_k k hk]; decide)) (fun c6 => ?_)
  refine px_W.run 4 (f' := (76, [some (.ref 0), some (.int (nI (10 * (k + 1) + d)))], [.int 10, .int (nI (10 * (k + 1) + d)), .ref 1])) (h' := (sh0, σ)) rfl ?_
  refine px_W.idiv rfl (by decide) ?_
  refine px_W.run 4 (f' := (82, [some (.ref 0), some (.int (nI (10 * (k + 1) + d)))], [.int 10, .int (nI (10 * (k + 1) + d)), .int (((nI (10 * (k + 1) + d)) / 10) - 1), .ref 1])) (h' := (sh0, σ)) rfl ?_
  refine px_W.irem rfl (by decide) ?_
  refine px_W.to (f' := (83, [some (.ref 0), some (.int (nI (10 * (k + 1) + d)))], [.int (nI d), .int (cI k), .ref 1])) (h' := (sh0, σ)) (by rw [td_k k (by omega) (by omega), td_d k (by omega) (by omega)]) ?_
  refine px_W.cE (as := [.ref 1, .int (cI k), .int (nI d)]) (st := []) (v := some (.int (-2))) (σ' := σ) rfl rfl rfl (t1_tellPartN σ (cI k) (nI d) (Or.inr (by rw [nI_toInt (by omega)]; omega))) ?_
  exact px_W.iret rfl rfl ⟨rfl, rfl⟩
theorem tM_toldPN {L : Nat} {xs : Nat → Int32} (σ : px_Sg) {k d : Nat} (hk : k < 8) (h4 : 4 ≤ d) (h10 : d < 10) : px_E L xs mX3_told [.ref 40, .int (nI (10 * (k + 1) + d))] σ (some (.int (-2))) σ := by
  show px_W L xs mX3_told (0, [some (.ref 40), some (.int (nI (10 * (k + 1) + d))), none], []) (sh0, σ) _
  refine px_W.run 2 (f' := (3, [some (.ref 40), some (.int (nI (10 * (k + 1) + d))), none], [.int 100, .int (nI (10 * (k + 1) + d))])) (h' := (sh0, σ)) rfl ?_
  refine px_W.icmp_lt rfl (fun c1 => ?_) (fun c1 => absurd (tn_ltd k d (c := 100) (by omega)) c1)
  refine px_W.run 2 (f' := (34, [some (.ref 40), some (.int (nI (10 * (k + 1) + d))), none], [.int 10, .int (nI (10 * (k + 1) + d))])) (h' := (sh0, σ)) rfl ?_
  refine px_W.icmp_lt rfl (fun c2 => absurd c2 (tn_ged k d (c := 10) (by omega))) (fun c2 => ?_)
  refine px_W.run 2 (f' := (40, [some (.ref 40), some (.int (nI (10 * (k + 1) + d))), none], [.int 10, .int (nI (10 * (k + 1) + d))])) (h' := (sh0, σ)) rfl ?_
  refine px_W.idiv rfl (by decide) ?_
  refine px_W.run 2 (f' := (43, [some (.ref 40), some (.int (nI (10 * (k + 1) + d))), none], [.int (((nI (10 * (k + 1) + d)) / 10) - 1)])) (h' := (sh0, σ)) rfl ?_
  refine px_W.to (f' := (43, [some (.ref 40), some (.int (nI (10 * (k + 1) + d))), none], [.int (cI k)])) (h' := (sh0, σ)) (by rw [td_k k (by omega) (by omega)]) ?_
  refine px_W.run 2 (f' := (45, [some (.ref 40), some (.int (nI (10 * (k + 1) + d))), some (.int (cI k))], [.int (cI k)])) (h' := (sh0, σ)) rfl ?_
  refine px_W.cE (as := [.int (cI k)]) (st := []) (v := some (.int (bo (iB (cI k) 0 7)))) (σ' := σ) rfl rfl rfl (t_isOne σ (cI k)) ?_
  refine px_W.if_ne rfl (fun c3 => absurd c3 (by rw [i8_iB, i8_k k hk]; decide)) (fun c3 => ?_)
  refine px_W.run 2 (f' := (57, [some (.ref 40), some (.int (nI (10 * (k + 1) + d))), some (.int (cI k))], [.int 10, .int (nI (10 * (k + 1) + d))])) (h' := (sh0, σ)) rfl ?_
  refine px_W.irem rfl (by decide) ?_
  refine px_W.to (f' := (58, [some (.ref 40), some (.int (nI (10 * (k + 1) + d))), some (.int (cI k))], [.int (nI d)])) (h' := (sh0, σ)) (by rw [td_d k (by omega) (by omega)]) ?_
  refine px_W.tsw (tg := 105) rfl (by unfold px_sw; rw [if_pos (Or.inr (by rw [nI_toInt (by omega)]; omega))]; rfl) ?_
  refine px_W.run 2 (f' := (108, [some (.ref 40), some (.int (nI (10 * (k + 1) + d))), some (.int (cI k))], [.int 10, .int (nI (10 * (k + 1) + d))])) (h' := (sh0, σ)) rfl ?_
  refine px_W.irem rfl (by decide) ?_
  refine px_W.to (f' := (109, [some (.ref 40), some (.int (nI (10 * (k + 1) + d))), some (.int (cI k))], [.int (nI d)])) (h' := (sh0, σ)) (by rw [td_d k (by omega) (by omega)]) ?_
  refine px_W.run 1 (f' := (110, [some (.ref 40), some (.int (nI (10 * (k + 1) + d))), some (.int (cI k))], [.int 3, .int (nI d)])) (h' := (sh0, σ)) rfl ?_
  refine px_W.icmp_ne rfl (fun c4 => absurd c4 (fun z => absurd ((nI_eq (b := 3) (by omega) (by decide)).mp z) (by omega))) (fun c4 => ?_)
  refine px_W.run 1 (f' := (124, [some (.ref 40), some (.int (nI (10 * (k + 1) + d))), some (.int (cI k))], [.int ((-2))])) (h' := (sh0, σ)) rfl ?_
  exact px_W.iret rfl rfl ⟨rfl, rfl⟩
theorem tX_toldA {L : Nat} {xs : Nat → Int32} (σ : px_Sg) {k : Nat} (hk : k < 8) : px_E L xs mX2_told [.ref 0, .int (nI (100 + k))] σ (some (.int (σ 6 k))) σ := by
  show px_W L xs mX2_told (0, [some (.ref 0), some (.int (nI (100 + k)))], []) (sh0, σ) _
  refine px_W.run 1 (f' := (1, [some (.ref 0), some (.int (nI (100 + k)))], [.int (nI (100 + k))])) (h' := (sh0, σ)) rfl ?_
  refine px_W.if_ne rfl (fun c1 => absurd c1 (fun z => absurd ((nI_eq (b := 0) (by omega) (by decide)).mp z) (by omega))) (fun c1 => ?_)
  refine px_W.run 2 (f' := (14, [some (.ref 0), some (.int (nI (100 + k)))], [.int 1, .int (nI (100 + k))])) (h' := (sh0, σ)) rfl ?_
  refine px_W.icmp_ne rfl (fun c2 => absurd c2 (fun z => absurd ((nI_eq (b := 1) (by omega) (by decide)).mp z) (by omega))) (fun c2 => ?_)
  refine px_W.run 2 (f' := (27, [some (.ref 0), some (.int (nI (100 + k)))], [.int 2, .int (nI (100 + k))])) (h' := (sh0, σ)) rfl ?_
  refine px_W.icmp_lt rfl (fun c3 => absurd c3 (nI_nlt (b := 2) (by omega) (by omega))) (fun c3 => ?_)
  refine px_W.run 3 (f' := (33, [some (.ref 0), some (.int (nI (100 + k)))], [.int ((nI (100 + k)) - 2)])) (h' := (sh0, σ)) rfl ?_
  refine px_W.cE (as := [.int ((nI (100 + k)) - 2)]) (st := []) (v := some (.int (bo (i4 ((nI (100 + k)) - 2))))) (σ' := σ) rfl rfl rfl (tX_isColony σ ((nI (100 + k)) - 2)) ?_
  refine px_W.if_eq rfl (fun c4 => ?_) (fun c4 => absurd (by rw [t1_c k hk]; decide) c4)
  refine px_W.run 2 (f' := (54, [some (.ref 0), some (.int (nI (100 + k)))], [.int 10, .int (nI (100 + k))])) (h' := (sh0, σ)) rfl ?_
  refine px_W.icmp_lt rfl (fun c5 => absurd c5 (nI_nlt (b := 10) (by omega) (by omega))) (fun c5 => ?_)
  refine px_W.run 2 (f' := (60, [some (.ref 0), some (.int (nI (100 + k)))], [.int 10, .int (nI (100 + k))])) (h' := (sh0, σ)) rfl ?_
  refine px_W.idiv rfl (by decide) ?_
  refine px_W.run 2 (f' := (63, [some (.ref 0), some (.int (nI (100 + k)))], [.int (((nI (100 + k)) / 10) - 1)])) (h' := (sh0, σ)) rfl ?_
  refine px_W.cE (as := [.int (((nI (100 + k)) / 10) - 1)]) (st := []) (v := some (.int (bo (i8 (((nI (100 + k)) / 10) - 1))))) (σ' := σ) rfl rfl rfl (t_isOfEight σ (((nI (100 + k)) / 10) - 1)) ?_
  refine px_W.if_eq rfl (fun c6 => ?_) (fun c6 => absurd (by rw [t1_p k hk]; decide) c6)
  refine px_W.run 2 (f' := (90, [some (.ref 0), some (.int (nI (100 + k)))], [.int 100, .int (nI (100 + k))])) (h' := (sh0, σ)) rfl ?_
  refine px_W.icmp_lt rfl (fun c7 => absurd c7 (nI_nlt (b := 100) (by omega) (by omega))) (fun c7 => ?_)
  refine px_W.run 3 (f' := (97, [some (.ref 0), some (.int (nI (100 + k)))], [.int ((nI (100 + k)) - 100)])) (h' := (sh0, σ)) rfl ?_
  refine px_W.to (f' := (97, [some (.ref 0), some (.int (nI (100 + k)))], [.int (cI k)])) (h' := (sh0, σ)) (by rw [t1_k k]) ?_
  refine px_W.cE (as := [.int (cI k)]) (st := []) (v := some (.int (bo (i8 (cI k))))) (σ' := σ) rfl rfl rfl (t_isOfEight σ (cI k)) ?_
  refine px_W.if_eq rfl (fun c8 => absurd c8 (by rw [i8_k k hk]; decide)) (fun c8 => ?_)
  refine px_W.run 6 (f' := (114, [some (.ref 0), some (.int (nI (100 + k)))], [.int ((nI (100 + k)) - 100), .ref 6])) (h' := (sh0, σ)) rfl ?_
  refine px_W.iald rfl rfl (i := k) (by rw [t1_k k]; exact cI_n k) (hk) (by decide) ?_
  exact px_W.iret rfl rfl ⟨rfl, rfl⟩
theorem tM_toldA {L : Nat} {xs : Nat → Int32} (σ : px_Sg) {k : Nat} (hk : k < 8) : px_E L xs mX3_told [.ref 40, .int (nI (100 + k))] σ (some (.int (σ 45 k))) σ := by
  show px_W L xs mX3_told (0, [some (.ref 40), some (.int (nI (100 + k))), none], []) (sh0, σ) _
  refine px_W.run 2 (f' := (3, [some (.ref 40), some (.int (nI (100 + k))), none], [.int 100, .int (nI (100 + k))])) (h' := (sh0, σ)) rfl ?_
  refine px_W.icmp_lt rfl (fun c1 => absurd c1 (nI_nlt (b := 100) (by omega) (by omega))) (fun c1 => ?_)
  refine px_W.run 3 (f' := (10, [some (.ref 40), some (.int (nI (100 + k))), none], [.int ((nI (100 + k)) - 100)])) (h' := (sh0, σ)) rfl ?_
  refine px_W.to (f' := (10, [some (.ref 40), some (.int (nI (100 + k))), none], [.int (cI k)])) (h' := (sh0, σ)) (by rw [t1_k k]) ?_
  refine px_W.cE (as := [.int (cI k)]) (st := []) (v := some (.int (bo (iB (cI k) 0 7)))) (σ' := σ) rfl rfl rfl (t_isOne σ (cI k)) ?_
  refine px_W.if_eq rfl (fun c2 => absurd c2 (by rw [i8_iB, i8_k k hk]; decide)) (fun c2 => ?_)
  refine px_W.run 5 (f' := (24, [some (.ref 40), some (.int (nI (100 + k))), none], [.int ((nI (100 + k)) - 100), .ref 45])) (h' := (sh0, σ)) rfl ?_
  refine px_W.iald rfl rfl (i := k) (by rw [t1_k k]; exact cI_n k) (hk) (by decide) ?_
  refine px_W.run 1 (f' := (30, [some (.ref 40), some (.int (nI (100 + k))), none], [.int (σ 45 k)])) (h' := (sh0, σ)) rfl ?_
  exact px_W.iret rfl rfl ⟨rfl, rfl⟩
theorem tX_toldZ {L : Nat} {xs : Nat → Int32} (σ : px_Sg) (q : Int32) (a0 : ¬ q = 0) (a1 : ¬ q = 1) (a2 : ¬ q < 2 → i4 (q - 2) = false) (a3 : ¬ q < 10 → i8 (q / 10 - 1) = false) (a4 : ¬ q < 100 → i8 (q - 100) = false) : px_E L xs mX2_told [.ref 0, .int q] σ (some (.int (-2))) σ := by
  show px_W L xs mX2_told (0, [some (.ref 0), some (.int q)], []) (sh0, σ) _
  refine px_W.run 1 (f' := (1, [some (.ref 0), some (.int q)], [.int q])) (h' := (sh0, σ)) rfl ?_
  refine px_W.if_ne rfl (fun c1 => absurd c1 (a0)) (fun c1 => ?_)
  refine px_W.run 2 (f' := (14, [some (.ref 0), some (.int q)], [.int 1, .int q])) (h' := (sh0, σ)) rfl ?_
  refine px_W.icmp_ne rfl (fun c2 => absurd c2 (a1)) (fun c2 => ?_)
  refine px_W.run 2 (f' := (27, [some (.ref 0), some (.int q)], [.int 2, .int q])) (h' := (sh0, σ)) rfl ?_
  refine px_W.icmp_lt rfl (fun c3 => ?_) (fun c3 => ?_)
  · refine px_W.run 2 (f' := (54, [some (.ref 0), some (.int q)], [.int 10, .int q])) (h' := (sh0, σ)) rfl ?_
    refine px_W.icmp_lt rfl (fun c4 => ?_) (fun c4 => ?_)
    · refine px_W.run 2 (f' := (90, [some (.ref 0), some (.int q)], [.int 100, .int q])) (h' := (sh0, σ)) rfl ?_
      refine px_W.icmp_lt rfl (fun c5 => ?_) (fun c5 => ?_)
      · refine px_W.run 1 (f' := (118, [some (.ref 0), some (.int q)], [.int ((-2))])) (h' := (sh0, σ)) rfl ?_
        exact px_W.iret rfl rfl ⟨rfl, rfl⟩
      · refine px_W.run 3 (f' := (97, [some (.ref 0), some (.int q)], [.int (q - 100)])) (h' := (sh0, σ)) rfl ?_
        refine px_W.cE (as := [.int (q - 100)]) (st := []) (v := some (.int (bo (i8 (q - 100))))) (σ' := σ) rfl rfl rfl (t_isOfEight σ (q - 100)) ?_
        refine px_W.if_eq rfl (fun c6 => ?_) (fun c6 => absurd (by rw [a4 (by assumption)]; decide) c6)
        refine px_W.run 1 (f' := (118, [some (.ref 0), some (.int q)], [.int ((-2))])) (h' := (sh0, σ)) rfl ?_
        exact px_W.iret rfl rfl ⟨rfl, rfl⟩
    · refine px_W.run 2 (f' := (60, [some (.ref 0), some (.int q)], [.int 10, .int q])) (h' := (sh0, σ)) rfl ?_
      refine px_W.idiv rfl (by decide) ?_
      refine px_W.run 2 (f' := (63, [some (.ref 0), some (.int q)], [.int ((q / 10) - 1)])) (h' := (sh0, σ)) rfl ?_
      refine px_W.cE (as := [.int ((q / 10) - 1)]) (st := []) (v := some (.int (bo (i8 ((q / 10) - 1))))) (σ' := σ) rfl rfl rfl (t_isOfEight σ ((q / 10) - 1)) ?_
      refine px_W.if_eq rfl (fun c7 => ?_) (fun c7 => absurd (by rw [a3 (by assumption)]; decide) c7)
      refine px_W.run 2 (f' := (90, [some (.ref 0), some (.int q)], [.int 100, .int q])) (h' := (sh0, σ)) rfl ?_
      refine px_W.icmp_lt rfl (fun c8 => ?_) (fun c8 => ?_)
      · refine px_W.run 1 (f' := (118, [some (.ref 0), some (.int q)], [.int ((-2))])) (h' := (sh0, σ)) rfl ?_
        exact px_W.iret rfl rfl ⟨rfl, rfl⟩
      · refine px_W.run 3 (f' := (97, [some (.ref 0), some (.int q)], [.int (q - 100)])) (h' := (sh0, σ)) rfl ?_
        refine px_W.cE (as := [.int (q - 100)]) (st := []) (v := some (.int (bo (i8 (q - 100))))) (σ' := σ) rfl rfl rfl (t_isOfEight σ (q - 100)) ?_
        refine px_W.if_eq rfl (fun c9 => ?_) (fun c9 => absurd (by rw [a4 (by assumption)]; decide) c9)
        refine px_W.run 1 (f' := (118, [some (.ref 0), some (.int q)], [.int ((-2))])) (h' := (sh0, σ)) rfl ?_
        exact px_W.iret rfl rfl ⟨rfl, rfl⟩
  · refine px_W.run 3 (f' := (33, [some (.ref 0), some (.int q)], [.int (q - 2)])) (h' := (sh0, σ)) rfl ?_
    refine px_W.cE (as := [.int (q - 2)]) (st := []) (v := some (.int (bo (i4 (q - 2))))) (σ' := σ) rfl rfl rfl (tX_isColony σ (q - 2)) ?_
    refine px_W.if_eq rfl (fun c10 => ?_) (fun c10 => absurd (by rw [a2 (by assumption)]; decide) c10)
    refine px_W.run 2 (f' := (54, [some (.ref 0), some (.int q)], [.int 10, .int q])) (h' := (sh0, σ)) rfl ?_
    refine px_W.icmp_lt rfl (fun c11 => ?_) (fun c11 => ?_)
    · refine px_W.run 2 (f' := (90, [some (.ref 0), some (.int q)], [.int 100, .int q])) (h' := (sh0, σ)) rfl ?_
      refine px_W.icmp_lt rfl (fun c12 => ?_) (fun c12 => ?_)
      · refine px_W.run 1 (f' := (118, [some (.ref 0), some (.int q)], [.int ((-2))])) (h' := (sh0, σ)) rfl ?_
        exact px_W.iret rfl rfl ⟨rfl, rfl⟩
      · refine px_W.run 3 (f' := (97, [some (.ref 0), some (.int q)], [.int (q - 100)])) (h' := (sh0, σ)) rfl ?_
        refine px_W.cE (as := [.int (q - 100)]) (st := []) (v := some (.int (bo (i8 (q - 100))))) (σ' := σ) rfl rfl rfl (t_isOfEight σ (q - 100)) ?_
        refine px_W.if_eq rfl (fun c13 => ?_) (fun c13 => absurd (by rw [a4 (by assumption)]; decide) c13)
        refine px_W.run 1 (f' := (118, [some (.ref 0), some (.int q)], [.int ((-2))])) (h' := (sh0, σ)) rfl ?_
        exact px_W.iret rfl rfl ⟨rfl, rfl⟩
    · refine px_W.run 2 (f' := (60, [some (.ref 0), some (.int q)], [.int 10, .int q])) (h' := (sh0, σ)) rfl ?_
      refine px_W.idiv rfl (by decide) ?_
      refine px_W.run 2 (f' := (63, [some (.ref 0), some (.int q)], [.int ((q / 10) - 1)])) (h' := (sh0, σ)) rfl ?_
      refine px_W.cE (as := [.int ((q / 10) - 1)]) (st := []) (v := some (.int (bo (i8 ((q / 10) - 1))))) (σ' := σ) rfl rfl rfl (t_isOfEight σ ((q / 10) - 1)) ?_
      refine px_W.if_eq rfl (fun c14 => ?_) (fun c14 => absurd (by rw [a3 (by assumption)]; decide) c14)
      refine px_W.run 2 (f' := (90, [some (.ref 0), some (.int q)], [.int 100, .int q])) (h' := (sh0, σ)) rfl ?_
      refine px_W.icmp_lt rfl (fun c15 => ?_) (fun c15 => ?_)
      · refine px_W.run 1 (f' := (118, [some (.ref 0), some (.int q)], [.int ((-2))])) (h' := (sh0, σ)) rfl ?_
        exact px_W.iret rfl rfl ⟨rfl, rfl⟩
      · refine px_W.run 3 (f' := (97, [some (.ref 0), some (.int q)], [.int (q - 100)])) (h' := (sh0, σ)) rfl ?_
        refine px_W.cE (as := [.int (q - 100)]) (st := []) (v := some (.int (bo (i8 (q - 100))))) (σ' := σ) rfl rfl rfl (t_isOfEight σ (q - 100)) ?_
        refine px_W.if_eq rfl (fun c16 => ?_) (fun c16 => absurd (by rw [a4 (by assumption)]; decide) c16)
        refine px_W.run 1 (f' := (118, [some (.ref 0), some (.int q)], [.int ((-2))])) (h' := (sh0, σ)) rfl ?_
        exact px_W.iret rfl rfl ⟨rfl, rfl⟩
theorem tM_toldZ {L : Nat} {xs : Nat → Int32} (σ : px_Sg) (q : Int32) (a0 : ¬ q = 0) (a1 : ¬ q = 1) (a2 : ¬ q < 2 → i4 (q - 2) = false) (a3 : ¬ q < 10 → i8 (q / 10 - 1) = false) (a4 : ¬ q < 100 → i8 (q - 100) = false) (a5 : iB q 2 5 = false) : px_E L xs mX3_told [.ref 40, .int q] σ (some (.int (-2))) σ := by
  show px_W L xs mX3_told (0, [some (.ref 40), some (.int q), none], []) (sh0, σ) _
  refine px_W.run 2 (f' := (3, [some (.ref 40), some (.int q), none], [.int 100, .int q])) (h' := (sh0, σ)) rfl ?_
  refine px_W.icmp_lt rfl (fun c1 => ?_) (fun c1 => ?_)
  · refine px_W.run 2 (f' := (34, [some (.ref 40), some (.int q), none], [.int 10, .int q])) (h' := (sh0, σ)) rfl ?_
    refine px_W.icmp_lt rfl (fun c2 => ?_) (fun c2 => ?_)
    · refine px_W.run 1 (f' := (126, [some (.ref 40), some (.int q), none], [.int q])) (h' := (sh0, σ)) rfl ?_
      refine px_W.if_ne rfl (fun c3 => absurd c3 (a0)) (fun c3 => ?_)
      refine px_W.run 2 (f' := (138, [some (.ref 40), some (.int q), none], [.int 1, .int q])) (h' := (sh0, σ)) rfl ?_
      refine px_W.icmp_ne rfl (fun c4 => absurd c4 (a1)) (fun c4 => ?_)
      refine px_W.run 3 (f' := (151, [some (.ref 40), some (.int q), none], [.int 5, .int 2, .int q])) (h' := (sh0, σ)) rfl ?_
      refine px_W.cE (as := [.int q, .int 2, .int 5]) (st := []) (v := some (.int (bo (iB q 2 5)))) (σ' := σ) rfl rfl rfl (t_in σ q 2 5) ?_
      refine px_W.if_eq rfl (fun c5 => ?_) (fun c5 => absurd (by rw [a5]; decide) c5)
      refine px_W.run 1 (f' := (170, [some (.ref 40), some (.int q), none], [.int ((-2))])) (h' := (sh0, σ)) rfl ?_
      exact px_W.iret rfl rfl ⟨rfl, rfl⟩
    · refine px_W.run 2 (f' := (40, [some (.ref 40), some (.int q), none], [.int 10, .int q])) (h' := (sh0, σ)) rfl ?_
      refine px_W.idiv rfl (by decide) ?_
      refine px_W.run 4 (f' := (45, [some (.ref 40), some (.int q), some (.int ((q / 10) - 1))], [.int ((q / 10) - 1)])) (h' := (sh0, σ)) rfl ?_
      refine px_W.cE (as := [.int ((q / 10) - 1)]) (st := []) (v := some (.int (bo (iB ((q / 10) - 1) 0 7)))) (σ' := σ) rfl rfl rfl (t_isOne σ ((q / 10) - 1)) ?_
      refine px_W.if_ne rfl (fun c6 => ?_) (fun c6 => absurd (by rw [i8_iB, a3 (by assumption)]; decide) c6)
      refine px_W.run 1 (f' := (53, [some (.ref 40), some (.int q), some (.int ((q / 10) - 1))], [.int ((-2))])) (h' := (sh0, σ)) rfl ?_
      exact px_W.iret rfl rfl ⟨rfl, rfl⟩
  · refine px_W.run 3 (f' := (10, [some (.ref 40), some (.int q), none], [.int (q - 100)])) (h' := (sh0, σ)) rfl ?_
    refine px_W.cE (as := [.int (q - 100)]) (st := []) (v := some (.int (bo (iB (q - 100) 0 7)))) (σ' := σ) rfl rfl rfl (t_isOne σ (q - 100)) ?_
    refine px_W.if_eq rfl (fun c7 => ?_) (fun c7 => absurd (by rw [i8_iB, a4 (by assumption)]; decide) c7)
    refine px_W.run 1 (f' := (30, [some (.ref 40), some (.int q), none], [.int ((-2))])) (h' := (sh0, σ)) rfl ?_
    exact px_W.iret rfl rfl ⟨rfl, rfl⟩
theorem tX_image0 {L : Nat} {xs : Nat → Int32} (σ : px_Sg) (q : Int32) (hv : iB q 0 1 = false) : px_E L xs mX2_image [.ref 0, .int q] σ (some (.int (-2))) σ := by
  show px_W L xs mX2_image (0, [some (.ref 0), some (.int q)], []) (sh0, σ) _
  refine px_W.run 1 (f' := (1, [some (.ref 0), some (.int q)], [.int q])) (h' := (sh0, σ)) rfl ?_
  refine px_W.if_lt rfl (fun c1 => ?_) (fun c1 => ?_)
  · refine px_W.run 1 (f' := (11, [some (.ref 0), some (.int q)], [.int ((-2))])) (h' := (sh0, σ)) rfl ?_
    exact px_W.iret rfl rfl ⟨rfl, rfl⟩
  · refine px_W.run 2 (f' := (6, [some (.ref 0), some (.int q)], [.int 2, .int q])) (h' := (sh0, σ)) rfl ?_
    refine px_W.icmp_lt rfl (fun c2 => ?_) (fun c2 => ?_)
    · exact absurd (iB_in (by assumption) (lt2_le (by assumption))) (by rw [hv]; decide)
    · refine px_W.run 1 (f' := (11, [some (.ref 0), some (.int q)], [.int ((-2))])) (h' := (sh0, σ)) rfl ?_
      exact px_W.iret rfl rfl ⟨rfl, rfl⟩
theorem tM_image0 {L : Nat} {xs : Nat → Int32} (σ : px_Sg) (q : Int32) (hv : iB q 0 1 = false) : px_E L xs mX3_image [.ref 40, .int q] σ (some (.int (-2))) σ := by
  show px_W L xs mX3_image (0, [some (.ref 40), some (.int q), none, none], []) (sh0, σ) _
  refine px_W.run 3 (f' := (3, [some (.ref 40), some (.int q), none, none], [.int 1, .int 0, .int q])) (h' := (sh0, σ)) rfl ?_
  refine px_W.cE (as := [.int q, .int 0, .int 1]) (st := []) (v := some (.int (bo (iB q 0 1)))) (σ' := σ) rfl rfl rfl (t_in σ q 0 1) ?_
  refine px_W.if_ne rfl (fun c1 => ?_) (fun c1 => absurd (by rw [hv]; decide) c1)
  refine px_W.run 1 (f' := (11, [some (.ref 40), some (.int q), none, none], [.int ((-2))])) (h' := (sh0, σ)) rfl ?_
  exact px_W.iret rfl rfl ⟨rfl, rfl⟩
def sX_image0 (σ : px_Sg)  : px_Sg := (px_up (s_copy_19_1 σ) 0 (upd ((s_copy_19_1 σ) 0) 6 1))
theorem tX_image_0 {L : Nat} {xs : Nat → Int32} (σ : px_Sg) (hz : σ 1 9 = 0 ∨ σ 1 9 = 1) : px_E L xs mX2_image [.ref 0, .int 0] σ (some (.int 1)) (sX_image0 σ ) := by
  show px_W L xs mX2_image (0, [some (.ref 0), some (.int 0)], []) (sh0, σ) _
  refine px_W.run 1 (f' := (1, [some (.ref 0), some (.int 0)], [.int 0])) (h' := (sh0, σ)) rfl ?_
  refine px_W.if_lt rfl (fun c1 => absurd c1 (by decide)) (fun c1 => ?_)
  refine px_W.run 2 (f' := (6, [some (.ref 0), some (.int 0)], [.int 2, .int 0])) (h' := (sh0, σ)) rfl ?_
  refine px_W.icmp_lt rfl (fun c2 => ?_) (fun c2 => absurd (by decide) c2)
  refine px_W.run 1 (f' := (13, [some (.ref 0), some (.int 0)], [.int 0])) (h' := (sh0, σ)) rfl ?_
  refine px_W.if_ne rfl (fun c3 => ?_) (fun c3 => absurd (by decide) c3)
  refine px_W.run 4 (f' := (24, [some (.ref 0), some (.int 0)], [.ref 1, .ref 19])) (h' := (sh0, σ)) rfl ?_
  refine px_W.cE (as := [.ref 19, .ref 1]) (st := []) (v := none) (σ' := (s_copy_19_1 σ)) rfl rfl rfl (t_copy_19_1 σ hz) ?_
  refine px_W.run 2 (f' := (29, [some (.ref 0), some (.int 0)], [.int 1, .ref 0])) (h' := (sh0, (s_copy_19_1 σ))) rfl ?_
  refine px_W.putz rfl rfl (by simp) ?_
  refine px_W.run 2 (f' := (52, [some (.ref 0), some (.int 0)], [.int 1])) (h' := (sh0, (px_up (s_copy_19_1 σ) 0 (upd ((s_copy_19_1 σ) 0) 6 1)))) rfl ?_
  exact px_W.iret rfl rfl ⟨rfl, rfl⟩
def sM_image0 (σ : px_Sg)  : px_Sg := (px_up (px_up (px_up (px_up (px_up σ 54 (im3 (im2 (im1 (σ 54) (σ 41) (σ 42) (σ 43) (σ 44) (σ 45) 0 8) (σ 47) 40 24) (σ 46) 64 4)) 54 (upd (im3 (im2 (im1 (σ 54) (σ 41) (σ 42) (σ 43) (σ 44) (σ 45) 0 8) (σ 47) 40 24) (σ 46) 64 4) (0 + 70) (σ 40 5))) 54 (upd (upd (im3 (im2 (im1 (σ 54) (σ 41) (σ 42) (σ 43) (σ 44) (σ 45) 0 8) (σ 47) 40 24) (σ 46) 64 4) (0 + 70) (σ 40 5)) (0 + 71) (σ 40 6))) 54 (upd (upd (upd (im3 (im2 (im1 (σ 54) (σ 41) (σ 42) (σ 43) (σ 44) (σ 45) 0 8) (σ 47) 40 24) (σ 46) 64 4) (0 + 70) (σ 40 5)) (0 + 71) (σ 40 6)) (0 + 72) (σ 40 8))) 55 (upd (σ 55) 0 1))
theorem tM_image_0 {L : Nat} {xs : Nat → Int32} (σ : px_Sg) : px_E L xs mX3_image [.ref 40, .int 0] σ (some (.int 1)) (sM_image0 σ ) := by
  show px_W L xs mX3_image (0, [some (.ref 40), some (.int 0), none, none], []) (sh0, σ) _
  refine px_W.run 3 (f' := (3, [some (.ref 40), some (.int 0), none, none], [.int 1, .int 0, .int 0])) (h' := (sh0, σ)) rfl ?_
  refine px_W.cE (as := [.int 0, .int 0, .int 1]) (st := []) (v := some (.int (bo (iB 0 0 1)))) (σ' := σ) rfl rfl rfl (t_in σ 0 0 1) ?_
  refine px_W.if_ne rfl (fun c1 => absurd c1 (by decide)) (fun c1 => ?_)
  refine px_W.run 6 (f' := (19, [some (.ref 40), some (.int 0), some (.int (90 * 0)), some (.int 0)], [])) (h' := (sh0, σ)) rfl ?_
  refine px_W.to (f' := (19, [some (.ref 40), some (.int 0), some (.int (90 * 0)), some (.int (cI 0))], [])) (h' := (sh0, (px_up σ 54 (im1 (σ 54) (σ 41) (σ 42) (σ 43) (σ 44) (σ 45) 0 0)))) (by simp [im1, px_up_self, cI]) ?_
  refine px_W.loop (8) (fun i => ((19, [some (.ref 40), some (.int 0), some (.int (90 * 0)), some (.int (cI i))], []), (sh0, (px_up σ 54 (im1 (σ 54) (σ 41) (σ 42) (σ 43) (σ 44) (σ 45) 0 i))))) (fun _ => True) (trivial) (fun i hi hIi ki => ?_) (fun hIi => ?_)
  · refine px_W.run 2 (f' := (22, [some (.ref 40), some (.int 0), some (.int (90 * 0)), some (.int (cI i))], [.int 8, .int (cI i)])) (h' := (sh0, (px_up σ 54 (im1 (σ 54) (σ 41) (σ 42) (σ 43) (σ 44) (σ 45) 0 i)))) rfl ?_
    refine px_W.icmp_ge rfl (fun c2 => absurd c2 (ge_no 8 hi (by decide))) (fun c2 => ?_)
    refine px_W.run 8 (f' := (37, [some (.ref 40), some (.int 0), some (.int (90 * 0)), some (.int (cI i))], [.int (cI i), .ref 41, .int ((90 * 0) + (cI i)), .ref 54])) (h' := (sh0, (px_up σ 54 (im1 (σ 54) (σ 41) (σ 42) (σ 43) (σ 44) (σ 45) 0 i)))) rfl ?_
    refine px_W.iald rfl rfl (i := i) (cI_n _) (by omega) (by decide) ?_
    refine px_W.iast rfl rfl (i := 0 + i) (by rw [cI_n]; exact (nI_add 0 i).trans (congrArg nI (by omega))) (by omega) (by decide) ?_
    refine px_W.run 10 (f' := (54, [some (.ref 40), some (.int 0), some (.int (90 * 0)), some (.int (cI i))], [.int (cI i), .ref 42, .int (((90 * 0) + 8) + (cI i)), .ref 54])) (h' := (sh0, (px_up (px_up σ 54 (im1 (σ 54) (σ 41) (σ 42) (σ 43) (σ 44) (σ 45) 0 i)) 54 (upd (im1 (σ 54) (σ 41) (σ 42) (σ 43) (σ 44) (σ 45) 0 i) (0 + i) (σ 41 i))))) rfl ?_
    refine px_W.iald rfl rfl (i := i) (cI_n _) (by omega) (by decide) ?_
    refine px_W.iast rfl rfl (i := 0 + (8 + i)) (by rw [cI_n]; exact (nI_add 8 i).trans (congrArg nI (by omega))) (by omega) (by decide) ?_
    refine px_W.run 10 (f' := (71, [some (.ref 40), some (.int 0), some (.int (90 * 0)), some (.int (cI i))], [.int (cI i), .ref 43, .int (((90 * 0) + 16) + (cI i)), .ref 54])) (h' := (sh0, (px_up (px_up (px_up σ 54 (im1 (σ 54) (σ 41) (σ 42) (σ 43) (σ 44) (σ 45) 0 i)) 54 (upd (im1 (σ 54) (σ 41) (σ 42) (σ 43) (σ 44) (σ 45) 0 i) (0 + i) (σ 41 i))) 54 (upd (upd (im1 (σ 54) (σ 41) (σ 42) (σ 43) (σ 44) (σ 45) 0 i) (0 + i) (σ 41 i)) (0 + (8 + i)) (σ 42 i))))) rfl ?_
    refine px_W.iald rfl rfl (i := i) (cI_n _) (by omega) (by decide) ?_
    refine px_W.iast rfl rfl (i := 0 + (16 + i)) (by rw [cI_n]; exact (nI_add 16 i).trans (congrArg nI (by omega))) (by omega) (by decide) ?_
    refine px_W.run 10 (f' := (88, [some (.ref 40), some (.int 0), some (.int (90 * 0)), some (.int (cI i))], [.int (cI i), .ref 44, .int (((90 * 0) + 24) + (cI i)), .ref 54])) (h' := (sh0, (px_up (px_up (px_up (px_up σ 54 (im1 (σ 54) (σ 41) (σ 42) (σ 43) (σ 44) (σ 45) 0 i)) 54 (upd (im1 (σ 54) (σ 41) (σ 42) (σ 43) (σ 44) (σ 45) 0 i) (0 + i) (σ 41 i))) 54 (upd (upd (im1 (σ 54) (σ 41) (σ 42) (σ 43) (σ 44) (σ 45) 0 i) (0 + i) (σ 41 i)) (0 + (8 + i)) (σ 42 i))) 54 (upd (upd (upd (im1 (σ 54) (σ 41) (σ 42) (σ 43) (σ 44) (σ 45) 0 i) (0 + i) (σ 41 i)) (0 + (8 + i)) (σ 42 i)) (0 + (16 + i)) (σ 43 i))))) rfl ?_
    refine px_W.iald rfl rfl (i := i) (cI_n _) (by omega) (by decide) ?_
    refine px_W.iast rfl rfl (i := 0 + (24 + i)) (by rw [cI_n]; exact (nI_add 24 i).trans (congrArg nI (by omega))) (by omega) (by decide) ?_
    refine px_W.run 10 (f' := (105, [some (.ref 40), some (.int 0), some (.int (90 * 0)), some (.int (cI i))], [.int (cI i), .ref 45, .int (((90 * 0) + 32) + (cI i)), .ref 54])) (h' := (sh0, (px_up (px_up (px_up (px_up (px_up σ 54 (im1 (σ 54) (σ 41) (σ 42) (σ 43) (σ 44) (σ 45) 0 i)) 54 (upd (im1 (σ 54) (σ 41) (σ 42) (σ 43) (σ 44) (σ 45) 0 i) (0 + i) (σ 41 i))) 54 (upd (upd (im1 (σ 54) (σ 41) (σ 42) (σ 43) (σ 44) (σ 45) 0 i) (0 + i) (σ 41 i)) (0 + (8 + i)) (σ 42 i))) 54 (upd (upd (upd (im1 (σ 54) (σ 41) (σ 42) (σ 43) (σ 44) (σ 45) 0 i) (0 + i) (σ 41 i)) (0 + (8 + i)) (σ 42 i)) (0 + (16 + i)) (σ 43 i))) 54 (upd (upd (upd (upd (im1 (σ 54) (σ 41) (σ 42) (σ 43) (σ 44) (σ 45) 0 i) (0 + i) (σ 41 i)) (0 + (8 + i)) (σ 42 i)) (0 + (16 + i)) (σ 43 i)) (0 + (24 + i)) (σ 44 i))))) rfl ?_
    refine px_W.iald rfl rfl (i := i) (cI_n _) (by omega) (by decide) ?_
    refine px_W.iast rfl rfl (i := 0 + (32 + i)) (by rw [cI_n]; exact (nI_add 32 i).trans (congrArg nI (by omega))) (by omega) (by decide) ?_
    refine px_W.run 2 (f' := (19, [some (.ref 40), some (.int 0), some (.int (90 * 0)), some (.int ((cI i) + 1))], [])) (h' := (sh0, (px_up (px_up (px_up (px_up (px_up (px_up σ 54 (im1 (σ 54) (σ 41) (σ 42) (σ 43) (σ 44) (σ 45) 0 i)) 54 (upd (im1 (σ 54) (σ 41) (σ 42) (σ 43) (σ 44) (σ 45) 0 i) (0 + i) (σ 41 i))) 54 (upd (upd (im1 (σ 54) (σ 41) (σ 42) (σ 43) (σ 44) (σ 45) 0 i) (0 + i) (σ 41 i)) (0 + (8 + i)) (σ 42 i))) 54 (upd (upd (upd (im1 (σ 54) (σ 41) (σ 42) (σ 43) (σ 44) (σ 45) 0 i) (0 + i) (σ 41 i)) (0 + (8 + i)) (σ 42 i)) (0 + (16 + i)) (σ 43 i))) 54 (upd (upd (upd (upd (im1 (σ 54) (σ 41) (σ 42) (σ 43) (σ 44) (σ 45) 0 i) (0 + i) (σ 41 i)) (0 + (8 + i)) (σ 42 i)) (0 + (16 + i)) (σ 43 i)) (0 + (24 + i)) (σ 44 i))) 54 (upd (upd (upd (upd (upd (im1 (σ 54) (σ 41) (σ 42) (σ 43) (σ 44) (σ 45) 0 i) (0 + i) (σ 41 i)) (0 + (8 + i)) (σ 42 i)) (0 + (16 + i)) (σ 43 i)) (0 + (24 + i)) (σ 44 i)) (0 + (32 + i)) (σ 45 i))))) rfl ?_
    exact px_W.to (by simp only [px_upup]; rfl) (ki trivial)
  · refine px_W.run 2 (f' := (22, [some (.ref 40), some (.int 0), some (.int (90 * 0)), some (.int (cI 8))], [.int 8, .int (cI 8)])) (h' := (sh0, (px_up σ 54 (im1 (σ 54) (σ 41) (σ 42) (σ 43) (σ 44) (σ 45) 0 8)))) rfl ?_
    refine px_W.icmp_ge rfl (fun c3 => ?_) (fun c3 => absurd (ge_yes 8 (by decide)) c3)
    refine px_W.run 2 (f' := (115, [some (.ref 40), some (.int 0), some (.int (90 * 0)), some (.int 0)], [])) (h' := (sh0, (px_up σ 54 (im1 (σ 54) (σ 41) (σ 42) (σ 43) (σ 44) (σ 45) 0 8)))) rfl ?_
    refine px_W.to (f' := (115, [some (.ref 40), some (.int 0), some (.int (90 * 0)), some (.int (cI 0))], [])) (h' := (sh0, (px_up σ 54 (im2 (im1 (σ 54) (σ 41) (σ 42) (σ 43) (σ 44) (σ 45) 0 8) (σ 47) 40 0)))) (by simp only [im2]; rfl) ?_
    refine px_W.loop (24) (fun i => ((115, [some (.ref 40), some (.int 0), some (.int (90 * 0)), some (.int (cI i))], []), (sh0, (px_up σ 54 (im2 (im1 (σ 54) (σ 41) (σ 42) (σ 43) (σ 44) (σ 45) 0 8) (σ 47) 40 i))))) (fun _ => True) (trivial) (fun i hi hIi ki => ?_) (fun hIi => ?_)
    · refine px_W.run 2 (f' := (118, [some (.ref 40), some (.int 0), some (.int (90 * 0)), some (.int (cI i))], [.int 24, .int (cI i)])) (h' := (sh0, (px_up σ 54 (im2 (im1 (σ 54) (σ 41) (σ 42) (σ 43) (σ 44) (σ 45) 0 8) (σ 47) 40 i)))) rfl ?_
      refine px_W.icmp_ge rfl (fun c4 => absurd c4 (ge_no 24 hi (by decide))) (fun c4 => ?_)
      refine px_W.run 10 (f' := (136, [some (.ref 40), some (.int 0), some (.int (90 * 0)), some (.int (cI i))], [.int (cI i), .ref 47, .int (((90 * 0) + 40) + (cI i)), .ref 54])) (h' := (sh0, (px_up σ 54 (im2 (im1 (σ 54) (σ 41) (σ 42) (σ 43) (σ 44) (σ 45) 0 8) (σ 47) 40 i)))) rfl ?_
      refine px_W.iald rfl rfl (i := i) (cI_n _) (by omega) (by decide) ?_
      refine px_W.iast rfl rfl (i := 40 + i) (by rw [cI_n]; exact nI_add 40 i) (by omega) (by decide) ?_
      refine px_W.run 2 (f' := (115, [some (.ref 40), some (.int 0), some (.int (90 * 0)), some (.int ((cI i) + 1))], [])) (h' := (sh0, (px_up (px_up σ 54 (im2 (im1 (σ 54) (σ 41) (σ 42) (σ 43) (σ 44) (σ 45) 0 8) (σ 47) 40 i)) 54 (upd (im2 (im1 (σ 54) (σ 41) (σ 42) (σ 43) (σ 44) (σ 45) 0 8) (σ 47) 40 i) (40 + i) (σ 47 i))))) rfl ?_
      exact px_W.to (by simp only [px_upup]; rfl) (ki trivial)
    · refine px_W.run 2 (f' := (118, [some (.ref 40), some (.int 0), some (.int (90 * 0)), some (.int (cI 24))], [.int 24, .int (cI 24)])) (h' := (sh0, (px_up σ 54 (im2 (im1 (σ 54) (σ 41) (σ 42) (σ 43) (σ 44) (σ 45) 0 8) (σ 47) 40 24)))) rfl ?_
      refine px_W.icmp_ge rfl (fun c5 => ?_) (fun c5 => absurd (ge_yes 24 (by decide)) c5)
      refine px_W.run 2 (f' := (146, [some (.ref 40), some (.int 0), some (.int (90 * 0)), some (.int 0)], [])) (h' := (sh0, (px_up σ 54 (im2 (im1 (σ 54) (σ 41) (σ 42) (σ 43) (σ 44) (σ 45) 0 8) (σ 47) 40 24)))) rfl ?_
      refine px_W.to (f' := (146, [some (.ref 40), some (.int 0), some (.int (90 * 0)), some (.int (cI 0))], [])) (h' := (sh0, (px_up σ 54 (im3 (im2 (im1 (σ 54) (σ 41) (σ 42) (σ 43) (σ 44) (σ 45) 0 8) (σ 47) 40 24) (σ 46) 64 0)))) (by simp only [im3]; rfl) ?_
      refine px_W.loop (4) (fun i => ((146, [some (.ref 40), some (.int 0), some (.int (90 * 0)), some (.int (cI i))], []), (sh0, (px_up σ 54 (im3 (im2 (im1 (σ 54) (σ 41) (σ 42) (σ 43) (σ 44) (σ 45) 0 8) (σ 47) 40 24) (σ 46) 64 i))))) (fun _ => True) (trivial) (fun i hi hIi ki => ?_) (fun hIi => ?_)
      · refine px_W.run 2 (f' := (148, [some (.ref 40), some (.int 0), some (.int (90 * 0)), some (.int (cI i))], [.int 4, .int (cI i)])) (h' := (sh0, (px_up σ 54 (im3 (im2 (im1 (σ 54) (σ 41) (σ 42) (σ 43) (σ 44) (σ 45) 0 8) (σ 47) 40 24) (σ 46) 64 i)))) rfl ?_
        refine px_W.icmp_ge rfl (fun c6 => absurd c6 (ge_no 4 hi (by decide))) (fun c6 => ?_)
        refine px_W.run 10 (f' := (166, [some (.ref 40), some (.int 0), some (.int (90 * 0)), some (.int (cI i))], [.int (cI i), .ref 46, .int (((90 * 0) + 64) + (cI i)), .ref 54])) (h' := (sh0, (px_up σ 54 (im3 (im2 (im1 (σ 54) (σ 41) (σ 42) (σ 43) (σ 44) (σ 45) 0 8) (σ 47) 40 24) (σ 46) 64 i)))) rfl ?_
        refine px_W.iald rfl rfl (i := i) (cI_n _) (by omega) (by decide) ?_
        refine px_W.iast rfl rfl (i := 64 + i) (by rw [cI_n]; exact nI_add 64 i) (by omega) (by decide) ?_
        refine px_W.run 2 (f' := (146, [some (.ref 40), some (.int 0), some (.int (90 * 0)), some (.int ((cI i) + 1))], [])) (h' := (sh0, (px_up (px_up σ 54 (im3 (im2 (im1 (σ 54) (σ 41) (σ 42) (σ 43) (σ 44) (σ 45) 0 8) (σ 47) 40 24) (σ 46) 64 i)) 54 (upd (im3 (im2 (im1 (σ 54) (σ 41) (σ 42) (σ 43) (σ 44) (σ 45) 0 8) (σ 47) 40 24) (σ 46) 64 i) (64 + i) (σ 46 i))))) rfl ?_
        exact px_W.to (by simp only [px_upup]; rfl) (ki trivial)
      · refine px_W.run 2 (f' := (148, [some (.ref 40), some (.int 0), some (.int (90 * 0)), some (.int (cI 4))], [.int 4, .int (cI 4)])) (h' := (sh0, (px_up σ 54 (im3 (im2 (im1 (σ 54) (σ 41) (σ 42) (σ 43) (σ 44) (σ 45) 0 8) (σ 47) 40 24) (σ 46) 64 4)))) rfl ?_
        refine px_W.icmp_ge rfl (fun c7 => ?_) (fun c7 => absurd (ge_yes 4 (by decide)) c7)
        refine px_W.run 7 (f' := (186, [some (.ref 40), some (.int 0), some (.int (90 * 0)), some (.int (cI 4))], [.int (σ 40 5), .int ((90 * 0) + 70), .ref 54])) (h' := (sh0, (px_up σ 54 (im3 (im2 (im1 (σ 54) (σ 41) (σ 42) (σ 43) (σ 44) (σ 45) 0 8) (σ 47) 40 24) (σ 46) 64 4)))) rfl ?_
        refine px_W.iast rfl rfl (i := 0 + 70) (by decide) (by decide) (by decide) ?_
        refine px_W.run 7 (f' := (199, [some (.ref 40), some (.int 0), some (.int (90 * 0)), some (.int (cI 4))], [.int (σ 40 6), .int ((90 * 0) + 71), .ref 54])) (h' := (sh0, (px_up (px_up σ 54 (im3 (im2 (im1 (σ 54) (σ 41) (σ 42) (σ 43) (σ 44) (σ 45) 0 8) (σ 47) 40 24) (σ 46) 64 4)) 54 (upd (im3 (im2 (im1 (σ 54) (σ 41) (σ 42) (σ 43) (σ 44) (σ 45) 0 8) (σ 47) 40 24) (σ 46) 64 4) (0 + 70) (σ 40 5))))) rfl ?_
        refine px_W.iast rfl rfl (i := 0 + 71) (by decide) (by decide) (by decide) ?_
        refine px_W.run 7 (f' := (212, [some (.ref 40), some (.int 0), some (.int (90 * 0)), some (.int (cI 4))], [.int (σ 40 8), .int ((90 * 0) + 72), .ref 54])) (h' := (sh0, (px_up (px_up (px_up σ 54 (im3 (im2 (im1 (σ 54) (σ 41) (σ 42) (σ 43) (σ 44) (σ 45) 0 8) (σ 47) 40 24) (σ 46) 64 4)) 54 (upd (im3 (im2 (im1 (σ 54) (σ 41) (σ 42) (σ 43) (σ 44) (σ 45) 0 8) (σ 47) 40 24) (σ 46) 64 4) (0 + 70) (σ 40 5))) 54 (upd (upd (im3 (im2 (im1 (σ 54) (σ 41) (σ 42) (σ 43) (σ 44) (σ 45) 0 8) (σ 47) 40 24) (σ 46) 64 4) (0 + 70) (σ 40 5)) (0 + 71) (σ 40 6))))) rfl ?_
        refine px_W.iast rfl rfl (i := 0 + 72) (by decide) (by decide) (by decide) ?_
        refine px_W.run 4 (f' := (219, [some (.ref 40), some (.int 0), some (.int (90 * 0)), some (.int (cI 4))], [.int 1, .int 0, .ref 55])) (h' := (sh0, (px_up (px_up (px_up (px_up σ 54 (im3 (im2 (im1 (σ 54) (σ 41) (σ 42) (σ 43) (σ 44) (σ 45) 0 8) (σ 47) 40 24) (σ 46) 64 4)) 54 (upd (im3 (im2 (im1 (σ 54) (σ 41) (σ 42) (σ 43) (σ 44) (σ 45) 0 8) (σ 47) 40 24) (σ 46) 64 4) (0 + 70) (σ 40 5))) 54 (upd (upd (im3 (im2 (im1 (σ 54) (σ 41) (σ 42) (σ 43) (σ 44) (σ 45) 0 8) (σ 47) 40 24) (σ 46) 64 4) (0 + 70) (σ 40 5)) (0 + 71) (σ 40 6))) 54 (upd (upd (upd (im3 (im2 (im1 (σ 54) (σ 41) (σ 42) (σ 43) (σ 44) (σ 45) 0 8) (σ 47) 40 24) (σ 46) 64 4) (0 + 70) (σ 40 5)) (0 + 71) (σ 40 6)) (0 + 72) (σ 40 8))))) rfl ?_
        refine px_W.zast rfl rfl (i := 0) (by decide) (by decide) (by decide) (by simp) ?_
        refine px_W.run 1 (f' := (221, [some (.ref 40), some (.int 0), some (.int (90 * 0)), some (.int (cI 4))], [.int 1])) (h' := (sh0, (px_up (px_up (px_up (px_up (px_up σ 54 (im3 (im2 (im1 (σ 54) (σ 41) (σ 42) (σ 43) (σ 44) (σ 45) 0 8) (σ 47) 40 24) (σ 46) 64 4)) 54 (upd (im3 (im2 (im1 (σ 54) (σ 41) (σ 42) (σ 43) (σ 44) (σ 45) 0 8) (σ 47) 40 24) (σ 46) 64 4) (0 + 70) (σ 40 5))) 54 (upd (upd (im3 (im2 (im1 (σ 54) (σ 41) (σ 42) (σ 43) (σ 44) (σ 45) 0 8) (σ 47) 40 24) (σ 46) 64 4) (0 + 70) (σ 40 5)) (0 + 71) (σ 40 6))) 54 (upd (upd (upd (im3 (im2 (im1 (σ 54) (σ 41) (σ 42) (σ 43) (σ 44) (σ 45) 0 8) (σ 47) 40 24) (σ 46) 64 4) (0 + 70) (σ 40 5)) (0 + 71) (σ 40 6)) (0 + 72) (σ 40 8))) 55 (upd (σ 55) 0 1)))) rfl ?_
        exact px_W.iret rfl rfl ⟨rfl, rfl⟩
def sX_image1 (σ : px_Sg)  : px_Sg := (px_up (s_copy_28_1 σ) 0 (upd ((s_copy_28_1 σ) 0) 7 1))
theorem tX_image_1 {L : Nat} {xs : Nat → Int32} (σ : px_Sg) (hz : σ 1 9 = 0 ∨ σ 1 9 = 1) : px_E L xs mX2_image [.ref 0, .int 1] σ (some (.int 1)) (sX_image1 σ ) := by
  show px_W L xs mX2_image (0, [some (.ref 0), some (.int 1)], []) (sh0, σ) _
  refine px_W.run 1 (f' := (1, [some (.ref 0), some (.int 1)], [.int 1])) (h' := (sh0, σ)) rfl ?_
  refine px_W.if_lt rfl (fun c1 => absurd c1 (by decide)) (fun c1 => ?_)
  refine px_W.run 2 (f' := (6, [some (.ref 0), some (.int 1)], [.int 2, .int 1])) (h' := (sh0, σ)) rfl ?_
  refine px_W.icmp_lt rfl (fun c2 => ?_) (fun c2 => absurd (by decide) c2)
  refine px_W.run 1 (f' := (13, [some (.ref 0), some (.int 1)], [.int 1])) (h' := (sh0, σ)) rfl ?_
  refine px_W.if_ne rfl (fun c3 => absurd c3 (by decide)) (fun c3 => ?_)
  refine px_W.run 4 (f' := (43, [some (.ref 0), some (.int 1)], [.ref 1, .ref 28])) (h' := (sh0, σ)) rfl ?_
  refine px_W.cE (as := [.ref 28, .ref 1]) (st := []) (v := none) (σ' := (s_copy_28_1 σ)) rfl rfl rfl (t_copy_28_1 σ hz) ?_
  refine px_W.run 2 (f' := (48, [some (.ref 0), some (.int 1)], [.int 1, .ref 0])) (h' := (sh0, (s_copy_28_1 σ))) rfl ?_
  refine px_W.putz rfl rfl (by simp) ?_
  refine px_W.run 1 (f' := (52, [some (.ref 0), some (.int 1)], [.int 1])) (h' := (sh0, (px_up (s_copy_28_1 σ) 0 (upd ((s_copy_28_1 σ) 0) 7 1)))) rfl ?_
  exact px_W.iret rfl rfl ⟨rfl, rfl⟩
def sM_image1 (σ : px_Sg)  : px_Sg := (px_up (px_up (px_up (px_up (px_up σ 54 (im3 (im2 (im1 (σ 54) (σ 41) (σ 42) (σ 43) (σ 44) (σ 45) 90 8) (σ 47) 130 24) (σ 46) 154 4)) 54 (upd (im3 (im2 (im1 (σ 54) (σ 41) (σ 42) (σ 43) (σ 44) (σ 45) 90 8) (σ 47) 130 24) (σ 46) 154 4) (90 + 70) (σ 40 5))) 54 (upd (upd (im3 (im2 (im1 (σ 54) (σ 41) (σ 42) (σ 43) (σ 44) (σ 45) 90 8) (σ 47) 130 24) (σ 46) 154 4) (90 + 70) (σ 40 5)) (90 + 71) (σ 40 6))) 54 (upd (upd (upd (im3 (im2 (im1 (σ 54) (σ 41) (σ 42) (σ 43) (σ 44) (σ 45) 90 8) (σ 47) 130 24) (σ 46) 154 4) (90 + 70) (σ 40 5)) (90 + 71) (σ 40 6)) (90 + 72) (σ 40 8))) 55 (upd (σ 55) 1 1))
theorem tM_image_1 {L : Nat} {xs : Nat → Int32} (σ : px_Sg) : px_E L xs mX3_image [.ref 40, .int 1] σ (some (.int 1)) (sM_image1 σ ) := by
  show px_W L xs mX3_image (0, [some (.ref 40), some (.int 1), none, none], []) (sh0, σ) _
  refine px_W.run 3 (f' := (3, [some (.ref 40), some (.int 1), none, none], [.int 1, .int 0, .int 1])) (h' := (sh0, σ)) rfl ?_
  refine px_W.cE (as := [.int 1, .int 0, .int 1]) (st := []) (v := some (.int (bo (iB 1 0 1)))) (σ' := σ) rfl rfl rfl (t_in σ 1 0 1) ?_
  refine px_W.if_ne rfl (fun c1 => absurd c1 (by decide)) (fun c1 => ?_)
  refine px_W.run 6 (f' := (19, [some (.ref 40), some (.int 1), some (.int (90 * 1)), some (.int 0)], [])) (h' := (sh0, σ)) rfl ?_
  refine px_W.to (f' := (19, [some (.ref 40), some (.int 1), some (.int (90 * 1)), some (.int (cI 0))], [])) (h' := (sh0, (px_up σ 54 (im1 (σ 54) (σ 41) (σ 42) (σ 43) (σ 44) (σ 45) 90 0)))) (by simp [im1, px_up_self, cI]) ?_
  refine px_W.loop (8) (fun i => ((19, [some (.ref 40), some (.int 1), some (.int (90 * 1)), some (.int (cI i))], []), (sh0, (px_up σ 54 (im1 (σ 54) (σ 41) (σ 42) (σ 43) (σ 44) (σ 45) 90 i))))) (fun _ => True) (trivial) (fun i hi hIi ki => ?_) (fun hIi => ?_)
  · refine px_W.run 2 (f' := (22, [some (.ref 40), some (.int 1), some (.int (90 * 1)), some (.int (cI i))], [.int 8, .int (cI i)])) (h' := (sh0, (px_up σ 54 (im1 (σ 54) (σ 41) (σ 42) (σ 43) (σ 44) (σ 45) 90 i)))) rfl ?_
    refine px_W.icmp_ge rfl (fun c2 => absurd c2 (ge_no 8 hi (by decide))) (fun c2 => ?_)
    refine px_W.run 8 (f' := (37, [some (.ref 40), some (.int 1), some (.int (90 * 1)), some (.int (cI i))], [.int (cI i), .ref 41, .int ((90 * 1) + (cI i)), .ref 54])) (h' := (sh0, (px_up σ 54 (im1 (σ 54) (σ 41) (σ 42) (σ 43) (σ 44) (σ 45) 90 i)))) rfl ?_
    refine px_W.iald rfl rfl (i := i) (cI_n _) (by omega) (by decide) ?_
    refine px_W.iast rfl rfl (i := 90 + i) (by rw [cI_n]; exact (nI_add 90 i).trans (congrArg nI (by omega))) (by omega) (by decide) ?_
    refine px_W.run 10 (f' := (54, [some (.ref 40), some (.int 1), some (.int (90 * 1)), some (.int (cI i))], [.int (cI i), .ref 42, .int (((90 * 1) + 8) + (cI i)), .ref 54])) (h' := (sh0, (px_up (px_up σ 54 (im1 (σ 54) (σ 41) (σ 42) (σ 43) (σ 44) (σ 45) 90 i)) 54 (upd (im1 (σ 54) (σ 41) (σ 42) (σ 43) (σ 44) (σ 45) 90 i) (90 + i) (σ 41 i))))) rfl ?_
    refine px_W.iald rfl rfl (i := i) (cI_n _) (by omega) (by decide) ?_
    refine px_W.iast rfl rfl (i := 90 + (8 + i)) (by rw [cI_n]; exact (nI_add 98 i).trans (congrArg nI (by omega))) (by omega) (by decide) ?_
    refine px_W.run 10 (f' := (71, [some (.ref 40), some (.int 1), some (.int (90 * 1)), some (.int (cI i))], [.int (cI i), .ref 43, .int (((90 * 1) + 16) + (cI i)), .ref 54])) (h' := (sh0, (px_up (px_up (px_up σ 54 (im1 (σ 54) (σ 41) (σ 42) (σ 43) (σ 44) (σ 45) 90 i)) 54 (upd (im1 (σ 54) (σ 41) (σ 42) (σ 43) (σ 44) (σ 45) 90 i) (90 + i) (σ 41 i))) 54 (upd (upd (im1 (σ 54) (σ 41) (σ 42) (σ 43) (σ 44) (σ 45) 90 i) (90 + i) (σ 41 i)) (90 + (8 + i)) (σ 42 i))))) rfl ?_
    refine px_W.iald rfl rfl (i := i) (cI_n _) (by omega) (by decide) ?_
    refine px_W.iast rfl rfl (i := 90 + (16 + i)) (by rw [cI_n]; exact (nI_add 106 i).trans (congrArg nI (by omega))) (by omega) (by decide) ?_
    refine px_W.run 10 (f' := (88, [some (.ref 40), some (.int 1), some (.int (90 * 1)), some (.int (cI i))], [.int (cI i), .ref 44, .int (((90 * 1) + 24) + (cI i)), .ref 54])) (h' := (sh0, (px_up (px_up (px_up (px_up σ 54 (im1 (σ 54) (σ 41) (σ 42) (σ 43) (σ 44) (σ 45) 90 i)) 54 (upd (im1 (σ 54) (σ 41) (σ 42) (σ 43) (σ 44) (σ 45) 90 i) (90 + i) (σ 41 i))) 54 (upd (upd (im1 (σ 54) (σ 41) (σ 42) (σ 43) (σ 44) (σ 45) 90 i) (90 + i) (σ 41 i)) (90 + (8 + i)) (σ 42 i))) 54 (upd (upd (upd (im1 (σ 54) (σ 41) (σ 42) (σ 43) (σ 44) (σ 45) 90 i) (90 + i) (σ 41 i)) (90 + (8 + i)) (σ 42 i)) (90 + (16 + i)) (σ 43 i))))) rfl ?_
    refine px_W.iald rfl rfl (i := i) (cI_n _) (by omega) (by decide) ?_
    refine px_W.iast rfl rfl (i := 90 + (24 + i)) (by rw [cI_n]; exact (nI_add 114 i).trans (congrArg nI (by omega))) (by omega) (by decide) ?_
    refine px_W.run 10 (f' := (105, [some (.ref 40), some (.int 1), some (.int (90 * 1)), some (.int (cI i))], [.int (cI i), .ref 45, .int (((90 * 1) + 32) + (cI i)), .ref 54])) (h' := (sh0, (px_up (px_up (px_up (px_up (px_up σ 54 (im1 (σ 54) (σ 41) (σ 42) (σ 43) (σ 44) (σ 45) 90 i)) 54 (upd (im1 (σ 54) (σ 41) (σ 42) (σ 43) (σ 44) (σ 45) 90 i) (90 + i) (σ 41 i))) 54 (upd (upd (im1 (σ 54) (σ 41) (σ 42) (σ 43) (σ 44) (σ 45) 90 i) (90 + i) (σ 41 i)) (90 + (8 + i)) (σ 42 i))) 54 (upd (upd (upd (im1 (σ 54) (σ 41) (σ 42) (σ 43) (σ 44) (σ 45) 90 i) (90 + i) (σ 41 i)) (90 + (8 + i)) (σ 42 i)) (90 + (16 + i)) (σ 43 i))) 54 (upd (upd (upd (upd (im1 (σ 54) (σ 41) (σ 42) (σ 43) (σ 44) (σ 45) 90 i) (90 + i) (σ 41 i)) (90 + (8 + i)) (σ 42 i)) (90 + (16 + i)) (σ 43 i)) (90 + (24 + i)) (σ 44 i))))) rfl ?_
    refine px_W.iald rfl rfl (i := i) (cI_n _) (by omega) (by decide) ?_
    refine px_W.iast rfl rfl (i := 90 + (32 + i)) (by rw [cI_n]; exact (nI_add 122 i).trans (congrArg nI (by omega))) (by omega) (by decide) ?_
    refine px_W.run 2 (f' := (19, [some (.ref 40), some (.int 1), some (.int (90 * 1)), some (.int ((cI i) + 1))], [])) (h' := (sh0, (px_up (px_up (px_up (px_up (px_up (px_up σ 54 (im1 (σ 54) (σ 41) (σ 42) (σ 43) (σ 44) (σ 45) 90 i)) 54 (upd (im1 (σ 54) (σ 41) (σ 42) (σ 43) (σ 44) (σ 45) 90 i) (90 + i) (σ 41 i))) 54 (upd (upd (im1 (σ 54) (σ 41) (σ 42) (σ 43) (σ 44) (σ 45) 90 i) (90 + i) (σ 41 i)) (90 + (8 + i)) (σ 42 i))) 54 (upd (upd (upd (im1 (σ 54) (σ 41) (σ 42) (σ 43) (σ 44) (σ 45) 90 i) (90 + i) (σ 41 i)) (90 + (8 + i)) (σ 42 i)) (90 + (16 + i)) (σ 43 i))) 54 (upd (upd (upd (upd (im1 (σ 54) (σ 41) (σ 42) (σ 43) (σ 44) (σ 45) 90 i) (90 + i) (σ 41 i)) (90 + (8 + i)) (σ 42 i)) (90 + (16 + i)) (σ 43 i)) (90 + (24 + i)) (σ 44 i))) 54 (upd (upd (upd (upd (upd (im1 (σ 54) (σ 41) (σ 42) (σ 43) (σ 44) (σ 45) 90 i) (90 + i) (σ 41 i)) (90 + (8 + i)) (σ 42 i)) (90 + (16 + i)) (σ 43 i)) (90 + (24 + i)) (σ 44 i)) (90 + (32 + i)) (σ 45 i))))) rfl ?_
    exact px_W.to (by simp only [px_upup]; rfl) (ki trivial)
  · refine px_W.run 2 (f' := (22, [some (.ref 40), some (.int 1), some (.int (90 * 1)), some (.int (cI 8))], [.int 8, .int (cI 8)])) (h' := (sh0, (px_up σ 54 (im1 (σ 54) (σ 41) (σ 42) (σ 43) (σ 44) (σ 45) 90 8)))) rfl ?_
    refine px_W.icmp_ge rfl (fun c3 => ?_) (fun c3 => absurd (ge_yes 8 (by decide)) c3)
    refine px_W.run 2 (f' := (115, [some (.ref 40), some (.int 1), some (.int (90 * 1)), some (.int 0)], [])) (h' := (sh0, (px_up σ 54 (im1 (σ 54) (σ 41) (σ 42) (σ 43) (σ 44) (σ 45) 90 8)))) rfl ?_
    refine px_W.to (f' := (115, [some (.ref 40), some (.int 1), some (.int (90 * 1)), some (.int (cI 0))], [])) (h' := (sh0, (px_up σ 54 (im2 (im1 (σ 54) (σ 41) (σ 42) (σ 43) (σ 44) (σ 45) 90 8) (σ 47) 130 0)))) (by simp only [im2]; rfl) ?_
    refine px_W.loop (24) (fun i => ((115, [some (.ref 40), some (.int 1), some (.int (90 * 1)), some (.int (cI i))], []), (sh0, (px_up σ 54 (im2 (im1 (σ 54) (σ 41) (σ 42) (σ 43) (σ 44) (σ 45) 90 8) (σ 47) 130 i))))) (fun _ => True) (trivial) (fun i hi hIi ki => ?_) (fun hIi => ?_)
    · refine px_W.run 2 (f' := (118, [some (.ref 40), some (.int 1), some (.int (90 * 1)), some (.int (cI i))], [.int 24, .int (cI i)])) (h' := (sh0, (px_up σ 54 (im2 (im1 (σ 54) (σ 41) (σ 42) (σ 43) (σ 44) (σ 45) 90 8) (σ 47) 130 i)))) rfl ?_
      refine px_W.icmp_ge rfl (fun c4 => absurd c4 (ge_no 24 hi (by decide))) (fun c4 => ?_)
      refine px_W.run 10 (f' := (136, [some (.ref 40), some (.int 1), some (.int (90 * 1)), some (.int (cI i))], [.int (cI i), .ref 47, .int (((90 * 1) + 40) + (cI i)), .ref 54])) (h' := (sh0, (px_up σ 54 (im2 (im1 (σ 54) (σ 41) (σ 42) (σ 43) (σ 44) (σ 45) 90 8) (σ 47) 130 i)))) rfl ?_
      refine px_W.iald rfl rfl (i := i) (cI_n _) (by omega) (by decide) ?_
      refine px_W.iast rfl rfl (i := 130 + i) (by rw [cI_n]; exact nI_add 130 i) (by omega) (by decide) ?_
      refine px_W.run 2 (f' := (115, [some (.ref 40), some (.int 1), some (.int (90 * 1)), some (.int ((cI i) + 1))], [])) (h' := (sh0, (px_up (px_up σ 54 (im2 (im1 (σ 54) (σ 41) (σ 42) (σ 43) (σ 44) (σ 45) 90 8) (σ 47) 130 i)) 54 (upd (im2 (im1 (σ 54) (σ 41) (σ 42) (σ 43) (σ 44) (σ 45) 90 8) (σ 47) 130 i) (130 + i) (σ 47 i))))) rfl ?_
      exact px_W.to (by simp only [px_upup]; rfl) (ki trivial)
    · refine px_W.run 2 (f' := (118, [some (.ref 40), some (.int 1), some (.int (90 * 1)), some (.int (cI 24))], [.int 24, .int (cI 24)])) (h' := (sh0, (px_up σ 54 (im2 (im1 (σ 54) (σ 41) (σ 42) (σ 43) (σ 44) (σ 45) 90 8) (σ 47) 130 24)))) rfl ?_
      refine px_W.icmp_ge rfl (fun c5 => ?_) (fun c5 => absurd (ge_yes 24 (by decide)) c5)
      refine px_W.run 2 (f' := (146, [some (.ref 40), some (.int 1), some (.int (90 * 1)), some (.int 0)], [])) (h' := (sh0, (px_up σ 54 (im2 (im1 (σ 54) (σ 41) (σ 42) (σ 43) (σ 44) (σ 45) 90 8) (σ 47) 130 24)))) rfl ?_
      refine px_W.to (f' := (146, [some (.ref 40), some (.int 1), some (.int (90 * 1)), some (.int (cI 0))], [])) (h' := (sh0, (px_up σ 54 (im3 (im2 (im1 (σ 54) (σ 41) (σ 42) (σ 43) (σ 44) (σ 45) 90 8) (σ 47) 130 24) (σ 46) 154 0)))) (by simp only [im3]; rfl) ?_
      refine px_W.loop (4) (fun i => ((146, [some (.ref 40), some (.int 1), some (.int (90 * 1)), some (.int (cI i))], []), (sh0, (px_up σ 54 (im3 (im2 (im1 (σ 54) (σ 41) (σ 42) (σ 43) (σ 44) (σ 45) 90 8) (σ 47) 130 24) (σ 46) 154 i))))) (fun _ => True) (trivial) (fun i hi hIi ki => ?_) (fun hIi => ?_)
      · refine px_W.run 2 (f' := (148, [some (.ref 40), some (.int 1), some (.int (90 * 1)), some (.int (cI i))], [.int 4, .int (cI i)])) (h' := (sh0, (px_up σ 54 (im3 (im2 (im1 (σ 54) (σ 41) (σ 42) (σ 43) (σ 44) (σ 45) 90 8) (σ 47) 130 24) (σ 46) 154 i)))) rfl ?_
        refine px_W.icmp_ge rfl (fun c6 => absurd c6 (ge_no 4 hi (by decide))) (fun c6 => ?_)
        refine px_W.run 10 (f' := (166, [some (.ref 40), some (.int 1), some (.int (90 * 1)), some (.int (cI i))], [.int (cI i), .ref 46, .int (((90 * 1) + 64) + (cI i)), .ref 54])) (h' := (sh0, (px_up σ 54 (im3 (im2 (im1 (σ 54) (σ 41) (σ 42) (σ 43) (σ 44) (σ 45) 90 8) (σ 47) 130 24) (σ 46) 154 i)))) rfl ?_
        refine px_W.iald rfl rfl (i := i) (cI_n _) (by omega) (by decide) ?_
        refine px_W.iast rfl rfl (i := 154 + i) (by rw [cI_n]; exact nI_add 154 i) (by omega) (by decide) ?_
        refine px_W.run 2 (f' := (146, [some (.ref 40), some (.int 1), some (.int (90 * 1)), some (.int ((cI i) + 1))], [])) (h' := (sh0, (px_up (px_up σ 54 (im3 (im2 (im1 (σ 54) (σ 41) (σ 42) (σ 43) (σ 44) (σ 45) 90 8) (σ 47) 130 24) (σ 46) 154 i)) 54 (upd (im3 (im2 (im1 (σ 54) (σ 41) (σ 42) (σ 43) (σ 44) (σ 45) 90 8) (σ 47) 130 24) (σ 46) 154 i) (154 + i) (σ 46 i))))) rfl ?_
        exact px_W.to (by simp only [px_upup]; rfl) (ki trivial)
      · refine px_W.run 2 (f' := (148, [some (.ref 40), some (.int 1), some (.int (90 * 1)), some (.int (cI 4))], [.int 4, .int (cI 4)])) (h' := (sh0, (px_up σ 54 (im3 (im2 (im1 (σ 54) (σ 41) (σ 42) (σ 43) (σ 44) (σ 45) 90 8) (σ 47) 130 24) (σ 46) 154 4)))) rfl ?_
        refine px_W.icmp_ge rfl (fun c7 => ?_) (fun c7 => absurd (ge_yes 4 (by decide)) c7)
        refine px_W.run 7 (f' := (186, [some (.ref 40), some (.int 1), some (.int (90 * 1)), some (.int (cI 4))], [.int (σ 40 5), .int ((90 * 1) + 70), .ref 54])) (h' := (sh0, (px_up σ 54 (im3 (im2 (im1 (σ 54) (σ 41) (σ 42) (σ 43) (σ 44) (σ 45) 90 8) (σ 47) 130 24) (σ 46) 154 4)))) rfl ?_
        refine px_W.iast rfl rfl (i := 90 + 70) (by decide) (by decide) (by decide) ?_
        refine px_W.run 7 (f' := (199, [some (.ref 40), some (.int 1), some (.int (90 * 1)), some (.int (cI 4))], [.int (σ 40 6), .int ((90 * 1) + 71), .ref 54])) (h' := (sh0, (px_up (px_up σ 54 (im3 (im2 (im1 (σ 54) (σ 41) (σ 42) (σ 43) (σ 44) (σ 45) 90 8) (σ 47) 130 24) (σ 46) 154 4)) 54 (upd (im3 (im2 (im1 (σ 54) (σ 41) (σ 42) (σ 43) (σ 44) (σ 45) 90 8) (σ 47) 130 24) (σ 46) 154 4) (90 + 70) (σ 40 5))))) rfl ?_
        refine px_W.iast rfl rfl (i := 90 + 71) (by decide) (by decide) (by decide) ?_
        refine px_W.run 7 (f' := (212, [some (.ref 40), some (.int 1), some (.int (90 * 1)), some (.int (cI 4))], [.int (σ 40 8), .int ((90 * 1) + 72), .ref 54])) (h' := (sh0, (px_up (px_up (px_up σ 54 (im3 (im2 (im1 (σ 54) (σ 41) (σ 42) (σ 43) (σ 44) (σ 45) 90 8) (σ 47) 130 24) (σ 46) 154 4)) 54 (upd (im3 (im2 (im1 (σ 54) (σ 41) (σ 42) (σ 43) (σ 44) (σ 45) 90 8) (σ 47) 130 24) (σ 46) 154 4) (90 + 70) (σ 40 5))) 54 (upd (upd (im3 (im2 (im1 (σ 54) (σ 41) (σ 42) (σ 43) (σ 44) (σ 45) 90 8) (σ 47) 130 24) (σ 46) 154 4) (90 + 70) (σ 40 5)) (90 + 71) (σ 40 6))))) rfl ?_
        refine px_W.iast rfl rfl (i := 90 + 72) (by decide) (by decide) (by decide) ?_
        refine px_W.run 4 (f' := (219, [some (.ref 40), some (.int 1), some (.int (90 * 1)), some (.int (cI 4))], [.int 1, .int 1, .ref 55])) (h' := (sh0, (px_up (px_up (px_up (px_up σ 54 (im3 (im2 (im1 (σ 54) (σ 41) (σ 42) (σ 43) (σ 44) (σ 45) 90 8) (σ 47) 130 24) (σ 46) 154 4)) 54 (upd (im3 (im2 (im1 (σ 54) (σ 41) (σ 42) (σ 43) (σ 44) (σ 45) 90 8) (σ 47) 130 24) (σ 46) 154 4) (90 + 70) (σ 40 5))) 54 (upd (upd (im3 (im2 (im1 (σ 54) (σ 41) (σ 42) (σ 43) (σ 44) (σ 45) 90 8) (σ 47) 130 24) (σ 46) 154 4) (90 + 70) (σ 40 5)) (90 + 71) (σ 40 6))) 54 (upd (upd (upd (im3 (im2 (im1 (σ 54) (σ 41) (σ 42) (σ 43) (σ 44) (σ 45) 90 8) (σ 47) 130 24) (σ 46) 154 4) (90 + 70) (σ 40 5)) (90 + 71) (σ 40 6)) (90 + 72) (σ 40 8))))) rfl ?_
        refine px_W.zast rfl rfl (i := 1) (by decide) (by decide) (by decide) (by simp) ?_
        refine px_W.run 1 (f' := (221, [some (.ref 40), some (.int 1), some (.int (90 * 1)), some (.int (cI 4))], [.int 1])) (h' := (sh0, (px_up (px_up (px_up (px_up (px_up σ 54 (im3 (im2 (im1 (σ 54) (σ 41) (σ 42) (σ 43) (σ 44) (σ 45) 90 8) (σ 47) 130 24) (σ 46) 154 4)) 54 (upd (im3 (im2 (im1 (σ 54) (σ 41) (σ 42) (σ 43) (σ 44) (σ 45) 90 8) (σ 47) 130 24) (σ 46) 154 4) (90 + 70) (σ 40 5))) 54 (upd (upd (im3 (im2 (im1 (σ 54) (σ 41) (σ 42) (σ 43) (σ 44) (σ 45) 90 8) (σ 47) 130 24) (σ 46) 154 4) (90 + 70) (σ 40 5)) (90 + 71) (σ 40 6))) 54 (upd (upd (upd (im3 (im2 (im1 (σ 54) (σ 41) (σ 42) (σ 43) (σ 44) (σ 45) 90 8) (σ 47) 130 24) (σ 46) 154 4) (90 + 70) (σ 40 5)) (90 + 71) (σ 40 6)) (90 + 72) (σ 40 8))) 55 (upd (σ 55) 1 1)))) rfl ?_
        exact px_W.iret rfl rfl ⟨rfl, rfl⟩
theorem tX_restore0 {L : Nat} {xs : Nat → Int32} (σ : px_Sg) (q : Int32) (hv : iB q 0 1 = false) : px_E L xs mX2_restore [.ref 0, .int q] σ (some (.int (-2))) σ := by
  show px_W L xs mX2_restore (0, [some (.ref 0), some (.int q)], []) (sh0, σ) _
  refine px_W.run 1 (f' := (1, [some (.ref 0), some (.int q)], [.int q])) (h' := (sh0, σ)) rfl ?_
  refine px_W.if_lt rfl (fun c1 => ?_) (fun c1 => ?_)
  · refine px_W.run 1 (f' := (11, [some (.ref 0), some (.int q)], [.int ((-2))])) (h' := (sh0, σ)) rfl ?_
    exact px_W.iret rfl rfl ⟨rfl, rfl⟩
  · refine px_W.run 2 (f' := (6, [some (.ref 0), some (.int q)], [.int 2, .int q])) (h' := (sh0, σ)) rfl ?_
    refine px_W.icmp_lt rfl (fun c2 => ?_) (fun c2 => ?_)
    · exact absurd (iB_in (by assumption) (lt2_le (by assumption))) (by rw [hv]; decide)
    · refine px_W.run 1 (f' := (11, [some (.ref 0), some (.int q)], [.int ((-2))])) (h' := (sh0, σ)) rfl ?_
      exact px_W.iret rfl rfl ⟨rfl, rfl⟩
theorem tM_restore0 {L : Nat} {xs : Nat → Int32} (σ : px_Sg) (q : Int32) (hv : iB q 0 1 = false) : px_E L xs mX3_restore [.ref 40, .int q] σ (some (.int (-2))) σ := by
  show px_W L xs mX3_restore (0, [some (.ref 40), some (.int q), none, none], []) (sh0, σ) _
  refine px_W.run 3 (f' := (3, [some (.ref 40), some (.int q), none, none], [.int 1, .int 0, .int q])) (h' := (sh0, σ)) rfl ?_
  refine px_W.cE (as := [.int q, .int 0, .int 1]) (st := []) (v := some (.int (bo (iB q 0 1)))) (σ' := σ) rfl rfl rfl (t_in σ q 0 1) ?_
  refine px_W.if_ne rfl (fun c1 => ?_) (fun c1 => absurd (by rw [hv]; decide) c1)
  refine px_W.run 1 (f' := (11, [some (.ref 40), some (.int q), none, none], [.int ((-2))])) (h' := (sh0, σ)) rfl ?_
  exact px_W.iret rfl rfl ⟨rfl, rfl⟩
theorem tX_restoreN0 {L : Nat} {xs : Nat → Int32} (σ : px_Sg) (hk : σ 0 6 = 0) : px_E L xs mX2_restore [.ref 0, .int 0] σ (some (.int (-3))) σ := by
  show px_W L xs mX2_restore (0, [some (.ref 0), some (.int 0)], []) (sh0, σ) _
  refine px_W.run 1 (f' := (1, [some (.ref 0), some (.int 0)], [.int 0])) (h' := (sh0, σ)) rfl ?_
  refine px_W.if_lt rfl (fun c1 => absurd c1 (by decide)) (fun c1 => ?_)
  refine px_W.run 2 (f' := (6, [some (.ref 0), some (.int 0)], [.int 2, .int 0])) (h' := (sh0, σ)) rfl ?_
  refine px_W.icmp_lt rfl (fun c2 => ?_) (fun c2 => absurd (by decide) c2)
  refine px_W.run 1 (f' := (13, [some (.ref 0), some (.int 0)], [.int 0])) (h' := (sh0, σ)) rfl ?_
  refine px_W.if_ne rfl (fun c3 => ?_) (fun c3 => absurd (by decide) c3)
  refine px_W.run 2 (f' := (20, [some (.ref 0), some (.int 0)], [.int (σ 0 6)])) (h' := (sh0, σ)) rfl ?_
  refine px_W.if_ne rfl (fun c4 => ?_) (fun c4 => absurd (hk) c4)
  refine px_W.run 2 (f' := (35, [some (.ref 0), some (.int 0)], [.int ((-3))])) (h' := (sh0, σ)) rfl ?_
  exact px_W.iret rfl rfl ⟨rfl, rfl⟩
theorem tX_restore_0 {L : Nat} {xs : Nat → Int32} (σ : px_Sg) (hk : σ 0 6 = 1) (hz : σ 19 9 = 0 ∨ σ 19 9 = 1) : px_E L xs mX2_restore [.ref 0, .int 0] σ (some (.int 1)) (s_copy_1_19 σ) := by
  show px_W L xs mX2_restore (0, [some (.ref 0), some (.int 0)], []) (sh0, σ) _
  refine px_W.run 1 (f' := (1, [some (.ref 0), some (.int 0)], [.int 0])) (h' := (sh0, σ)) rfl ?_
  refine px_W.if_lt rfl (fun c1 => absurd c1 (by decide)) (fun c1 => ?_)
  refine px_W.run 2 (f' := (6, [some (.ref 0), some (.int 0)], [.int 2, .int 0])) (h' := (sh0, σ)) rfl ?_
  refine px_W.icmp_lt rfl (fun c2 => ?_) (fun c2 => absurd (by decide) c2)
  refine px_W.run 1 (f' := (13, [some (.ref 0), some (.int 0)], [.int 0])) (h' := (sh0, σ)) rfl ?_
  refine px_W.if_ne rfl (fun c3 => ?_) (fun c3 => absurd (by decide) c3)
  refine px_W.run 2 (f' := (20, [some (.ref 0), some (.int 0)], [.int (σ 0 6)])) (h' := (sh0, σ)) rfl ?_
  refine px_W.if_ne rfl (fun c4 => absurd c4 (by rw [hk]; decide)) (fun c4 => ?_)
  refine px_W.run 3 (f' := (41, [some (.ref 0), some (.int 0)], [.int 0, .ref 1])) (h' := (sh0, σ)) rfl ?_
  refine px_W.if_ne rfl (fun c5 => ?_) (fun c5 => absurd (by decide) c5)
  refine px_W.run 3 (f' := (55, [some (.ref 0), some (.int 0)], [.ref 19, .ref 1])) (h' := (sh0, σ)) rfl ?_
  refine px_W.cE (as := [.ref 1, .ref 19]) (st := []) (v := none) (σ' := (s_copy_1_19 σ)) rfl rfl rfl (t_copy_1_19 σ hz) ?_
  refine px_W.run 1 (f' := (59, [some (.ref 0), some (.int 0)], [.int 1])) (h' := (sh0, (s_copy_1_19 σ))) rfl ?_
  exact px_W.iret rfl rfl ⟨rfl, rfl⟩
theorem tM_restoreN0 {L : Nat} {xs : Nat → Int32} (σ : px_Sg) (hk : σ 55 0 = 0) : px_E L xs mX3_restore [.ref 40, .int 0] σ (some (.int (-3))) σ := by
  show px_W L xs mX3_restore (0, [some (.ref 40), some (.int 0), none, none], []) (sh0, σ) _
  refine px_W.run 3 (f' := (3, [some (.ref 40), some (.int 0), none, none], [.int 1, .int 0, .int 0])) (h' := (sh0, σ)) rfl ?_
  refine px_W.cE (as := [.int 0, .int 0, .int 1]) (st := []) (v := some (.int (bo (iB 0 0 1)))) (σ' := σ) rfl rfl rfl (t_in σ 0 0 1) ?_
  refine px_W.if_ne rfl (fun c1 => absurd c1 (by decide)) (fun c1 => ?_)
  refine px_W.run 3 (f' := (17, [some (.ref 40), some (.int 0), none, none], [.int 0, .ref 55])) (h' := (sh0, σ)) rfl ?_
  refine px_W.zald rfl rfl (i := 0) (by decide) (by decide) (by decide) ?_
  refine px_W.if_ne rfl (fun c2 => ?_) (fun c2 => absurd (hk) c2)
  refine px_W.run 1 (f' := (23, [some (.ref 40), some (.int 0), none, none], [.int ((-3))])) (h' := (sh0, σ)) rfl ?_
  exact px_W.iret rfl rfl ⟨rfl, rfl⟩
def sM_restore0 (σ : px_Sg)  : px_Sg := (px_up (px_up (px_up (px_up (px_up (px_up (px_up (px_up (px_up (px_up σ 41 (cpn (fun k => σ 54 (0 + k)) (σ 41) 8)) 42 (cpn (fun k => σ 54 (0 + (8 + k))) (σ 42) 8)) 43 (cpn (fun k => σ 54 (0 + (16 + k))) (σ 43) 8)) 44 (cpn (fun k => σ 54 (0 + (24 + k))) (σ 44) 8)) 45 (cpn (fun k => σ 54 (0 + (32 + k))) (σ 45) 8)) 47 (cpn (fun k => σ 54 (40 + k)) (σ 47) 24)) 46 (cpn (fun k => σ 54 (64 + k)) (σ 46) 4)) 40 (upd (σ 40) 5 (σ 54 (0 + 70)))) 40 (upd (upd (σ 40) 5 (σ 54 (0 + 70))) 6 (σ 54 (0 + 71)))) 40 (upd (upd (upd (σ 40) 5 (σ 54 (0 + 70))) 6 (σ 54 (0 + 71))) 8 (σ 54 (0 + 72))))
theorem tM_restore_0 {L : Nat} {xs : Nat → Int32} (σ : px_Sg) (hk : σ 55 0 = 1) : px_E L xs mX3_restore [.ref 40, .int 0] σ (some (.int 1)) (sM_restore0 σ ) := by
  show px_W L xs mX3_restore (0, [some (.ref 40), some (.int 0), none, none], []) (sh0, σ) _
  refine px_W.run 3 (f' := (3, [some (.ref 40), some (.int 0), none, none], [.int 1, .int 0, .int 0])) (h' := (sh0, σ)) rfl ?_
  refine px_W.cE (as := [.int 0, .int 0, .int 1]) (st := []) (v := some (.int (bo (iB 0 0 1)))) (σ' := σ) rfl rfl rfl (t_in σ 0 0 1) ?_
  refine px_W.if_ne rfl (fun c1 => absurd c1 (by decide)) (fun c1 => ?_)
  refine px_W.run 3 (f' := (17, [some (.ref 40), some (.int 0), none, none], [.int 0, .ref 55])) (h' := (sh0, σ)) rfl ?_
  refine px_W.zald rfl rfl (i := 0) (by decide) (by decide) (by decide) ?_
  refine px_W.if_ne rfl (fun c2 => absurd c2 (by rw [hk]; decide)) (fun c2 => ?_)
  refine px_W.run 6 (f' := (31, [some (.ref 40), some (.int 0), some (.int (90 * 0)), some (.int 0)], [])) (h' := (sh0, σ)) rfl ?_
  refine px_W.to (f' := (31, [some (.ref 40), some (.int 0), some (.int (90 * 0)), some (.int (cI 0))], [])) (h' := (sh0, (px_up (px_up (px_up (px_up (px_up σ 41 (cpn (fun k => σ 54 (0 + k)) (σ 41) 0)) 42 (cpn (fun k => σ 54 (0 + (8 + k))) (σ 42) 0)) 43 (cpn (fun k => σ 54 (0 + (16 + k))) (σ 43) 0)) 44 (cpn (fun k => σ 54 (0 + (24 + k))) (σ 44) 0)) 45 (cpn (fun k => σ 54 (0 + (32 + k))) (σ 45) 0)))) (by simp only [cpn_0, px_up5s]; rfl) ?_
  refine px_W.loop (8) (fun i => ((31, [some (.ref 40), some (.int 0), some (.int (90 * 0)), some (.int (cI i))], []), (sh0, (px_up (px_up (px_up (px_up (px_up σ 41 (cpn (fun k => σ 54 (0 + k)) (σ 41) i)) 42 (cpn (fun k => σ 54 (0 + (8 + k))) (σ 42) i)) 43 (cpn (fun k => σ 54 (0 + (16 + k))) (σ 43) i)) 44 (cpn (fun k => σ 54 (0 + (24 + k))) (σ 44) i)) 45 (cpn (fun k => σ 54 (0 + (32 + k))) (σ 45) i))))) (fun _ => True) (trivial) (fun i hi hIi ki => ?_) (fun hIi => ?_)
  · refine px_W.run 2 (f' := (34, [some (.ref 40), some (.int 0), some (.int (90 * 0)), some (.int (cI i))], [.int 8, .int (cI i)])) (h' := (sh0, (px_up (px_up (px_up (px_up (px_up σ 41 (cpn (fun k => σ 54 (0 + k)) (σ 41) i)) 42 (cpn (fun k => σ 54 (0 + (8 + k))) (σ 42) i)) 43 (cpn (fun k => σ 54 (0 + (16 + k))) (σ 43) i)) 44 (cpn (fun k => σ 54 (0 + (24 + k))) (σ 44) i)) 45 (cpn (fun k => σ 54 (0 + (32 + k))) (σ 45) i)))) rfl ?_
    refine px_W.icmp_ge rfl (fun c3 => absurd c3 (ge_no 8 hi (by decide))) (fun c3 => ?_)
    refine px_W.run 8 (f' := (49, [some (.ref 40), some (.int 0), some (.int (90 * 0)), some (.int (cI i))], [.int ((90 * 0) + (cI i)), .ref 54, .int (cI i), .ref 41])) (h' := (sh0, (px_up (px_up (px_up (px_up (px_up σ 41 (cpn (fun k => σ 54 (0 + k)) (σ 41) i)) 42 (cpn (fun k => σ 54 (0 + (8 + k))) (σ 42) i)) 43 (cpn (fun k => σ 54 (0 + (16 + k))) (σ 43) i)) 44 (cpn (fun k => σ 54 (0 + (24 + k))) (σ 44) i)) 45 (cpn (fun k => σ 54 (0 + (32 + k))) (σ 45) i)))) rfl ?_
    refine px_W.iald rfl rfl (i := 0 + i) (by rw [cI_n]; exact (nI_add 0 i).trans (congrArg nI (by omega))) (by omega) (by decide) ?_
    refine px_W.iast rfl rfl (i := i) (cI_n _) (by omega) (by decide) ?_
    refine px_W.run 10 (f' := (66, [some (.ref 40), some (.int 0), some (.int (90 * 0)), some (.int (cI i))], [.int (((90 * 0) + 8) + (cI i)), .ref 54, .int (cI i), .ref 42])) (h' := (sh0, (px_up (px_up (px_up (px_up (px_up (px_up σ 41 (cpn (fun k => σ 54 (0 + k)) (σ 41) i)) 42 (cpn (fun k => σ 54 (0 + (8 + k))) (σ 42) i)) 43 (cpn (fun k => σ 54 (0 + (16 + k))) (σ 43) i)) 44 (cpn (fun k => σ 54 (0 + (24 + k))) (σ 44) i)) 45 (cpn (fun k => σ 54 (0 + (32 + k))) (σ 45) i)) 41 (upd (cpn (fun k => σ 54 (0 + k)) (σ 41) i) i (σ 54 (0 + i)))))) rfl ?_
    refine px_W.iald rfl rfl (i := 0 + (8 + i)) (by rw [cI_n]; exact (nI_add 8 i).trans (congrArg nI (by omega))) (by omega) (by decide) ?_
    refine px_W.iast rfl rfl (i := i) (cI_n _) (by omega) (by decide) ?_
    refine px_W.run 10 (f' := (83, [some (.ref 40), some (.int 0), some (.int (90 * 0)), some (.int (cI i))], [.int (((90 * 0) + 16) + (cI i)), .ref 54, .int (cI i), .ref 43])) (h' := (sh0, (px_up (px_up (px_up (px_up (px_up (px_up (px_up σ 41 (cpn (fun k => σ 54 (0 + k)) (σ 41) i)) 42 (cpn (fun k => σ 54 (0 + (8 + k))) (σ 42) i)) 43 (cpn (fun k => σ 54 (0 + (16 + k))) (σ 43) i)) 44 (cpn (fun k => σ 54 (0 + (24 + k))) (σ 44) i)) 45 (cpn (fun k => σ 54 (0 + (32 + k))) (σ 45) i)) 41 (upd (cpn (fun k => σ 54 (0 + k)) (σ 41) i) i (σ 54 (0 + i)))) 42 (upd (cpn (fun k => σ 54 (0 + (8 + k))) (σ 42) i) i (σ 54 (0 + (8 + i))))))) rfl ?_
    refine px_W.iald rfl rfl (i := 0 + (16 + i)) (by rw [cI_n]; exact (nI_add 16 i).trans (congrArg nI (by omega))) (by omega) (by decide) ?_
    refine px_W.iast rfl rfl (i := i) (cI_n _) (by omega) (by decide) ?_
    refine px_W.run 10 (f' := (100, [some (.ref 40), some (.int 0), some (.int (90 * 0)), some (.int (cI i))], [.int (((90 * 0) + 24) + (cI i)), .ref 54, .int (cI i), .ref 44])) (h' := (sh0, (px_up (px_up (px_up (px_up (px_up (px_up (px_up (px_up σ 41 (cpn (fun k => σ 54 (0 + k)) (σ 41) i)) 42 (cpn (fun k => σ 54 (0 + (8 + k))) (σ 42) i)) 43 (cpn (fun k => σ 54 (0 + (16 + k))) (σ 43) i)) 44 (cpn (fun k => σ 54 (0 + (24 + k))) (σ 44) i)) 45 (cpn (fun k => σ 54 (0 + (32 + k))) (σ 45) i)) 41 (upd (cpn (fun k => σ 54 (0 + k)) (σ 41) i) i (σ 54 (0 + i)))) 42 (upd (cpn (fun k => σ 54 (0 + (8 + k))) (σ 42) i) i (σ 54 (0 + (8 + i))))) 43 (upd (cpn (fun k => σ 54 (0 + (16 + k))) (σ 43) i) i (σ 54 (0 + (16 + i))))))) rfl ?_
    refine px_W.iald rfl rfl (i := 0 + (24 + i)) (by rw [cI_n]; exact (nI_add 24 i).trans (congrArg nI (by omega))) (by omega) (by decide) ?_
    refine px_W.iast rfl rfl (i := i) (cI_n _) (by omega) (by decide) ?_
    refine px_W.run 10 (f' := (117, [some (.ref 40), some (.int 0), some (.int (90 * 0)), some (.int (cI i))], [.int (((90 * 0) + 32) + (cI i)), .ref 54, .int (cI i), .ref 45])) (h' := (sh0, (px_up (px_up (px_up (px_up (px_up (px_up (px_up (px_up (px_up σ 41 (cpn (fun k => σ 54 (0 + k)) (σ 41) i)) 42 (cpn (fun k => σ 54 (0 + (8 + k))) (σ 42) i)) 43 (cpn (fun k => σ 54 (0 + (16 + k))) (σ 43) i)) 44 (cpn (fun k => σ 54 (0 + (24 + k))) (σ 44) i)) 45 (cpn (fun k => σ 54 (0 + (32 + k))) (σ 45) i)) 41 (upd (cpn (fun k => σ 54 (0 + k)) (σ 41) i) i (σ 54 (0 + i)))) 42 (upd (cpn (fun k => σ 54 (0 + (8 + k))) (σ 42) i) i (σ 54 (0 + (8 + i))))) 43 (upd (cpn (fun k => σ 54 (0 + (16 + k))) (σ 43) i) i (σ 54 (0 + (16 + i))))) 44 (upd (cpn (fun k => σ 54 (0 + (24 + k))) (σ 44) i) i (σ 54 (0 + (24 + i))))))) rfl ?_
    refine px_W.iald rfl rfl (i := 0 + (32 + i)) (by rw [cI_n]; exact (nI_add 32 i).trans (congrArg nI (by omega))) (by omega) (by decide) ?_
    refine px_W.iast rfl rfl (i := i) (cI_n _) (by omega) (by decide) ?_
    refine px_W.run 2 (f' := (31, [some (.ref 40), some (.int 0), some (.int (90 * 0)), some (.int ((cI i) + 1))], [])) (h' := (sh0, (px_up (px_up (px_up (px_up (px_up (px_up (px_up (px_up (px_up (px_up σ 41 (cpn (fun k => σ 54 (0 + k)) (σ 41) i)) 42 (cpn (fun k => σ 54 (0 + (8 + k))) (σ 42) i)) 43 (cpn (fun k => σ 54 (0 + (16 + k))) (σ 43) i)) 44 (cpn (fun k => σ 54 (0 + (24 + k))) (σ 44) i)) 45 (cpn (fun k => σ 54 (0 + (32 + k))) (σ 45) i)) 41 (upd (cpn (fun k => σ 54 (0 + k)) (σ 41) i) i (σ 54 (0 + i)))) 42 (upd (cpn (fun k => σ 54 (0 + (8 + k))) (σ 42) i) i (σ 54 (0 + (8 + i))))) 43 (upd (cpn (fun k => σ 54 (0 + (16 + k))) (σ 43) i) i (σ 54 (0 + (16 + i))))) 44 (upd (cpn (fun k => σ 54 (0 + (24 + k))) (σ 44) i) i (σ 54 (0 + (24 + i))))) 45 (upd (cpn (fun k => σ 54 (0 + (32 + k))) (σ 45) i) i (σ 54 (0 + (32 + i))))))) rfl ?_
    exact px_W.to (by rw [px_up5, cpn_s (fun k => σ 54 (0 + k)), cpn_s (fun k => σ 54 (0 + (8 + k))), cpn_s (fun k => σ 54 (0 + (16 + k))), cpn_s (fun k => σ 54 (0 + (24 + k))), cpn_s (fun k => σ 54 (0 + (32 + k)))]; rfl) (ki trivial)
  · refine px_W.run 2 (f' := (34, [some (.ref 40), some (.int 0), some (.int (90 * 0)), some (.int (cI 8))], [.int 8, .int (cI 8)])) (h' := (sh0, (px_up (px_up (px_up (px_up (px_up σ 41 (cpn (fun k => σ 54 (0 + k)) (σ 41) 8)) 42 (cpn (fun k => σ 54 (0 + (8 + k))) (σ 42) 8)) 43 (cpn (fun k => σ 54 (0 + (16 + k))) (σ 43) 8)) 44 (cpn (fun k => σ 54 (0 + (24 + k))) (σ 44) 8)) 45 (cpn (fun k => σ 54 (0 + (32 + k))) (σ 45) 8)))) rfl ?_
    refine px_W.icmp_ge rfl (fun c4 => ?_) (fun c4 => absurd (ge_yes 8 (by decide)) c4)
    refine px_W.run 2 (f' := (127, [some (.ref 40), some (.int 0), some (.int (90 * 0)), some (.int 0)], [])) (h' := (sh0, (px_up (px_up (px_up (px_up (px_up σ 41 (cpn (fun k => σ 54 (0 + k)) (σ 41) 8)) 42 (cpn (fun k => σ 54 (0 + (8 + k))) (σ 42) 8)) 43 (cpn (fun k => σ 54 (0 + (16 + k))) (σ 43) 8)) 44 (cpn (fun k => σ 54 (0 + (24 + k))) (σ 44) 8)) 45 (cpn (fun k => σ 54 (0 + (32 + k))) (σ 45) 8)))) rfl ?_
    refine px_W.to (f' := (127, [some (.ref 40), some (.int 0), some (.int (90 * 0)), some (.int (cI 0))], [])) (h' := (sh0, (px_up (px_up (px_up (px_up (px_up (px_up σ 41 (cpn (fun k => σ 54 (0 + k)) (σ 41) 8)) 42 (cpn (fun k => σ 54 (0 + (8 + k))) (σ 42) 8)) 43 (cpn (fun k => σ 54 (0 + (16 + k))) (σ 43) 8)) 44 (cpn (fun k => σ 54 (0 + (24 + k))) (σ 44) 8)) 45 (cpn (fun k => σ 54 (0 + (32 + k))) (σ 45) 8)) 47 (cpn (fun k => σ 54 (40 + k)) (σ 47) 0)))) (by rw [cpn_0]; exact Prod.ext rfl (Prod.ext rfl (px_up_id rfl).symm)) ?_
    refine px_W.loop (24) (fun i => ((127, [some (.ref 40), some (.int 0), some (.int (90 * 0)), some (.int (cI i))], []), (sh0, (px_up (px_up (px_up (px_up (px_up (px_up σ 41 (cpn (fun k => σ 54 (0 + k)) (σ 41) 8)) 42 (cpn (fun k => σ 54 (0 + (8 + k))) (σ 42) 8)) 43 (cpn (fun k => σ 54 (0 + (16 + k))) (σ 43) 8)) 44 (cpn (fun k => σ 54 (0 + (24 + k))) (σ 44) 8)) 45 (cpn (fun k => σ 54 (0 + (32 + k))) (σ 45) 8)) 47 (cpn (fun k => σ 54 (40 + k)) (σ 47) i))))) (fun _ => True) (trivial) (fun i hi hIi ki => ?_) (fun hIi => ?_)
    · refine px_W.run 2 (f' := (130, [some (.ref 40), some (.int 0), some (.int (90 * 0)), some (.int (cI i))], [.int 24, .int (cI i)])) (h' := (sh0, (px_up (px_up (px_up (px_up (px_up (px_up σ 41 (cpn (fun k => σ 54 (0 + k)) (σ 41) 8)) 42 (cpn (fun k => σ 54 (0 + (8 + k))) (σ 42) 8)) 43 (cpn (fun k => σ 54 (0 + (16 + k))) (σ 43) 8)) 44 (cpn (fun k => σ 54 (0 + (24 + k))) (σ 44) 8)) 45 (cpn (fun k => σ 54 (0 + (32 + k))) (σ 45) 8)) 47 (cpn (fun k => σ 54 (40 + k)) (σ 47) i)))) rfl ?_
      refine px_W.icmp_ge rfl (fun c5 => absurd c5 (ge_no 24 hi (by decide))) (fun c5 => ?_)
      refine px_W.run 10 (f' := (148, [some (.ref 40), some (.int 0), some (.int (90 * 0)), some (.int (cI i))], [.int (((90 * 0) + 40) + (cI i)), .ref 54, .int (cI i), .ref 47])) (h' := (sh0, (px_up (px_up (px_up (px_up (px_up (px_up σ 41 (cpn (fun k => σ 54 (0 + k)) (σ 41) 8)) 42 (cpn (fun k => σ 54 (0 + (8 + k))) (σ 42) 8)) 43 (cpn (fun k => σ 54 (0 + (16 + k))) (σ 43) 8)) 44 (cpn (fun k => σ 54 (0 + (24 + k))) (σ 44) 8)) 45 (cpn (fun k => σ 54 (0 + (32 + k))) (σ 45) 8)) 47 (cpn (fun k => σ 54 (40 + k)) (σ 47) i)))) rfl ?_
      refine px_W.iald rfl rfl (i := 40 + i) (by rw [cI_n]; exact nI_add 40 i) (by omega) (by decide) ?_
      refine px_W.iast rfl rfl (i := i) (cI_n _) (by omega) (by decide) ?_
      refine px_W.run 2 (f' := (127, [some (.ref 40), some (.int 0), some (.int (90 * 0)), some (.int ((cI i) + 1))], [])) (h' := (sh0, (px_up (px_up (px_up (px_up (px_up (px_up (px_up σ 41 (cpn (fun k => σ 54 (0 + k)) (σ 41) 8)) 42 (cpn (fun k => σ 54 (0 + (8 + k))) (σ 42) 8)) 43 (cpn (fun k => σ 54 (0 + (16 + k))) (σ 43) 8)) 44 (cpn (fun k => σ 54 (0 + (24 + k))) (σ 44) 8)) 45 (cpn (fun k => σ 54 (0 + (32 + k))) (σ 45) 8)) 47 (cpn (fun k => σ 54 (40 + k)) (σ 47) i)) 47 (upd (cpn (fun k => σ 54 (40 + k)) (σ 47) i) i (σ 54 (40 + i)))))) rfl ?_
      exact px_W.to (by rw [px_upup, cpn_s (fun k => σ 54 (40 + k))]; rfl) (ki trivial)
    · refine px_W.run 2 (f' := (130, [some (.ref 40), some (.int 0), some (.int (90 * 0)), some (.int (cI 24))], [.int 24, .int (cI 24)])) (h' := (sh0, (px_up (px_up (px_up (px_up (px_up (px_up σ 41 (cpn (fun k => σ 54 (0 + k)) (σ 41) 8)) 42 (cpn (fun k => σ 54 (0 + (8 + k))) (σ 42) 8)) 43 (cpn (fun k => σ 54 (0 + (16 + k))) (σ 43) 8)) 44 (cpn (fun k => σ 54 (0 + (24 + k))) (σ 44) 8)) 45 (cpn (fun k => σ 54 (0 + (32 + k))) (σ 45) 8)) 47 (cpn (fun k => σ 54 (40 + k)) (σ 47) 24)))) rfl ?_
      refine px_W.icmp_ge rfl (fun c6 => ?_) (fun c6 => absurd (ge_yes 24 (by decide)) c6)
      refine px_W.run 2 (f' := (158, [some (.ref 40), some (.int 0), some (.int (90 * 0)), some (.int 0)], [])) (h' := (sh0, (px_up (px_up (px_up (px_up (px_up (px_up σ 41 (cpn (fun k => σ 54 (0 + k)) (σ 41) 8)) 42 (cpn (fun k => σ 54 (0 + (8 + k))) (σ 42) 8)) 43 (cpn (fun k => σ 54 (0 + (16 + k))) (σ 43) 8)) 44 (cpn (fun k => σ 54 (0 + (24 + k))) (σ 44) 8)) 45 (cpn (fun k => σ 54 (0 + (32 + k))) (σ 45) 8)) 47 (cpn (fun k => σ 54 (40 + k)) (σ 47) 24)))) rfl ?_
      refine px_W.to (f' := (158, [some (.ref 40), some (.int 0), some (.int (90 * 0)), some (.int (cI 0))], [])) (h' := (sh0, (px_up (px_up (px_up (px_up (px_up (px_up (px_up σ 41 (cpn (fun k => σ 54 (0 + k)) (σ 41) 8)) 42 (cpn (fun k => σ 54 (0 + (8 + k))) (σ 42) 8)) 43 (cpn (fun k => σ 54 (0 + (16 + k))) (σ 43) 8)) 44 (cpn (fun k => σ 54 (0 + (24 + k))) (σ 44) 8)) 45 (cpn (fun k => σ 54 (0 + (32 + k))) (σ 45) 8)) 47 (cpn (fun k => σ 54 (40 + k)) (σ 47) 24)) 46 (cpn (fun k => σ 54 (64 + k)) (σ 46) 0)))) (by rw [cpn_0]; exact Prod.ext rfl (Prod.ext rfl (px_up_id rfl).symm)) ?_
      refine px_W.loop (4) (fun i => ((158, [some (.ref 40), some (.int 0), some (.int (90 * 0)), some (.int (cI i))], []), (sh0, (px_up (px_up (px_up (px_up (px_up (px_up (px_up σ 41 (cpn (fun k => σ 54 (0 + k)) (σ 41) 8)) 42 (cpn (fun k => σ 54 (0 + (8 + k))) (σ 42) 8)) 43 (cpn (fun k => σ 54 (0 + (16 + k))) (σ 43) 8)) 44 (cpn (fun k => σ 54 (0 + (24 + k))) (σ 44) 8)) 45 (cpn (fun k => σ 54 (0 + (32 + k))) (σ 45) 8)) 47 (cpn (fun k => σ 54 (40 + k)) (σ 47) 24)) 46 (cpn (fun k => σ 54 (64 + k)) (σ 46) i))))) (fun _ => True) (trivial) (fun i hi hIi ki => ?_) (fun hIi => ?_)
      · refine px_W.run 2 (f' := (160, [some (.ref 40), some (.int 0), some (.int (90 * 0)), some (.int (cI i))], [.int 4, .int (cI i)])) (h' := (sh0, (px_up (px_up (px_up (px_up (px_up (px_up (px_up σ 41 (cpn (fun k => σ 54 (0 + k)) (σ 41) 8)) 42 (cpn (fun k => σ 54 (0 + (8 + k))) (σ 42) 8)) 43 (cpn (fun k => σ 54 (0 + (16 + k))) (σ 43) 8)) 44 (cpn (fun k => σ 54 (0 + (24 + k))) (σ 44) 8)) 45 (cpn (fun k => σ 54 (0 + (32 + k))) (σ 45) 8)) 47 (cpn (fun k => σ 54 (40 + k)) (σ 47) 24)) 46 (cpn (fun k => σ 54 (64 + k)) (σ 46) i)))) rfl ?_
        refine px_W.icmp_ge rfl (fun c7 => absurd c7 (ge_no 4 hi (by decide))) (fun c7 => ?_)
        refine px_W.run 10 (f' := (178, [some (.ref 40), some (.int 0), some (.int (90 * 0)), some (.int (cI i))], [.int (((90 * 0) + 64) + (cI i)), .ref 54, .int (cI i), .ref 46])) (h' := (sh0, (px_up (px_up (px_up (px_up (px_up (px_up (px_up σ 41 (cpn (fun k => σ 54 (0 + k)) (σ 41) 8)) 42 (cpn (fun k => σ 54 (0 + (8 + k))) (σ 42) 8)) 43 (cpn (fun k => σ 54 (0 + (16 + k))) (σ 43) 8)) 44 (cpn (fun k => σ 54 (0 + (24 + k))) (σ 44) 8)) 45 (cpn (fun k => σ 54 (0 + (32 + k))) (σ 45) 8)) 47 (cpn (fun k => σ 54 (40 + k)) (σ 47) 24)) 46 (cpn (fun k => σ 54 (64 + k)) (σ 46) i)))) rfl ?_
        refine px_W.iald rfl rfl (i := 64 + i) (by rw [cI_n]; exact nI_add 64 i) (by omega) (by decide) ?_
        refine px_W.iast rfl rfl (i := i) (cI_n _) (by omega) (by decide) ?_
        refine px_W.run 2 (f' := (158, [some (.ref 40), some (.int 0), some (.int (90 * 0)), some (.int ((cI i) + 1))], [])) (h' := (sh0, (px_up (px_up (px_up (px_up (px_up (px_up (px_up (px_up σ 41 (cpn (fun k => σ 54 (0 + k)) (σ 41) 8)) 42 (cpn (fun k => σ 54 (0 + (8 + k))) (σ 42) 8)) 43 (cpn (fun k => σ 54 (0 + (16 + k))) (σ 43) 8)) 44 (cpn (fun k => σ 54 (0 + (24 + k))) (σ 44) 8)) 45 (cpn (fun k => σ 54 (0 + (32 + k))) (σ 45) 8)) 47 (cpn (fun k => σ 54 (40 + k)) (σ 47) 24)) 46 (cpn (fun k => σ 54 (64 + k)) (σ 46) i)) 46 (upd (cpn (fun k => σ 54 (64 + k)) (σ 46) i) i (σ 54 (64 + i)))))) rfl ?_
        exact px_W.to (by rw [px_upup, cpn_s (fun k => σ 54 (64 + k))]; rfl) (ki trivial)
      · refine px_W.run 2 (f' := (160, [some (.ref 40), some (.int 0), some (.int (90 * 0)), some (.int (cI 4))], [.int 4, .int (cI 4)])) (h' := (sh0, (px_up (px_up (px_up (px_up (px_up (px_up (px_up σ 41 (cpn (fun k => σ 54 (0 + k)) (σ 41) 8)) 42 (cpn (fun k => σ 54 (0 + (8 + k))) (σ 42) 8)) 43 (cpn (fun k => σ 54 (0 + (16 + k))) (σ 43) 8)) 44 (cpn (fun k => σ 54 (0 + (24 + k))) (σ 44) 8)) 45 (cpn (fun k => σ 54 (0 + (32 + k))) (σ 45) 8)) 47 (cpn (fun k => σ 54 (40 + k)) (σ 47) 24)) 46 (cpn (fun k => σ 54 (64 + k)) (σ 46) 4)))) rfl ?_
        refine px_W.icmp_ge rfl (fun c8 => ?_) (fun c8 => absurd (ge_yes 4 (by decide)) c8)
        refine px_W.run 6 (f' := (195, [some (.ref 40), some (.int 0), some (.int (90 * 0)), some (.int (cI 4))], [.int ((90 * 0) + 70), .ref 54, .ref 40])) (h' := (sh0, (px_up (px_up (px_up (px_up (px_up (px_up (px_up σ 41 (cpn (fun k => σ 54 (0 + k)) (σ 41) 8)) 42 (cpn (fun k => σ 54 (0 + (8 + k))) (σ 42) 8)) 43 (cpn (fun k => σ 54 (0 + (16 + k))) (σ 43) 8)) 44 (cpn (fun k => σ 54 (0 + (24 + k))) (σ 44) 8)) 45 (cpn (fun k => σ 54 (0 + (32 + k))) (σ 45) 8)) 47 (cpn (fun k => σ 54 (40 + k)) (σ 47) 24)) 46 (cpn (fun k => σ 54 (64 + k)) (σ 46) 4)))) rfl ?_
        refine px_W.iald rfl rfl (i := 0 + 70) (by decide) (by decide) (by decide) ?_
        refine px_W.puti rfl rfl ?_
        refine px_W.run 6 (f' := (208, [some (.ref 40), some (.int 0), some (.int (90 * 0)), some (.int (cI 4))], [.int ((90 * 0) + 71), .ref 54, .ref 40])) (h' := (sh0, (px_up (px_up (px_up (px_up (px_up (px_up (px_up (px_up σ 41 (cpn (fun k => σ 54 (0 + k)) (σ 41) 8)) 42 (cpn (fun k => σ 54 (0 + (8 + k))) (σ 42) 8)) 43 (cpn (fun k => σ 54 (0 + (16 + k))) (σ 43) 8)) 44 (cpn (fun k => σ 54 (0 + (24 + k))) (σ 44) 8)) 45 (cpn (fun k => σ 54 (0 + (32 + k))) (σ 45) 8)) 47 (cpn (fun k => σ 54 (40 + k)) (σ 47) 24)) 46 (cpn (fun k => σ 54 (64 + k)) (σ 46) 4)) 40 (upd (σ 40) 5 (σ 54 (0 + 70)))))) rfl ?_
        refine px_W.iald rfl rfl (i := 0 + 71) (by decide) (by decide) (by decide) ?_
        refine px_W.puti rfl rfl ?_
        refine px_W.run 6 (f' := (221, [some (.ref 40), some (.int 0), some (.int (90 * 0)), some (.int (cI 4))], [.int ((90 * 0) + 72), .ref 54, .ref 40])) (h' := (sh0, (px_up (px_up (px_up (px_up (px_up (px_up (px_up (px_up (px_up σ 41 (cpn (fun k => σ 54 (0 + k)) (σ 41) 8)) 42 (cpn (fun k => σ 54 (0 + (8 + k))) (σ 42) 8)) 43 (cpn (fun k => σ 54 (0 + (16 + k))) (σ 43) 8)) 44 (cpn (fun k => σ 54 (0 + (24 + k))) (σ 44) 8)) 45 (cpn (fun k => σ 54 (0 + (32 + k))) (σ 45) 8)) 47 (cpn (fun k => σ 54 (40 + k)) (σ 47) 24)) 46 (cpn (fun k => σ 54 (64 + k)) (σ 46) 4)) 40 (upd (σ 40) 5 (σ 54 (0 + 70)))) 40 (upd (upd (σ 40) 5 (σ 54 (0 + 70))) 6 (σ 54 (0 + 71)))))) rfl ?_
        refine px_W.iald rfl rfl (i := 0 + 72) (by decide) (by decide) (by decide) ?_
        refine px_W.puti rfl rfl ?_
        refine px_W.run 1 (f' := (226, [some (.ref 40), some (.int 0), some (.int (90 * 0)), some (.int (cI 4))], [.int 1])) (h' := (sh0, (px_up (px_up (px_up (px_up (px_up (px_up (px_up (px_up (px_up (px_up σ 41 (cpn (fun k => σ 54 (0 + k)) (σ 41) 8)) 42 (cpn (fun k => σ 54 (0 + (8 + k))) (σ 42) 8)) 43 (cpn (fun k => σ 54 (0 + (16 + k))) (σ 43) 8)) 44 (cpn (fun k => σ 54 (0 + (24 + k))) (σ 44) 8)) 45 (cpn (fun k => σ 54 (0 + (32 + k))) (σ 45) 8)) 47 (cpn (fun k => σ 54 (40 + k)) (σ 47) 24)) 46 (cpn (fun k => σ 54 (64 + k)) (σ 46) 4)) 40 (upd (σ 40) 5 (σ 54 (0 + 70)))) 40 (upd (upd (σ 40) 5 (σ 54 (0 + 70))) 6 (σ 54 (0 + 71)))) 40 (upd (upd (upd (σ 40) 5 (σ 54 (0 + 70))) 6 (σ 54 (0 + 71))) 8 (σ 54 (0 + 72)))))) rfl ?_
        exact px_W.iret rfl rfl ⟨rfl, rfl⟩
theorem tX_restoreN1 {L : Nat} {xs : Nat → Int32} (σ : px_Sg) (hk : σ 0 7 = 0) : px_E L xs mX2_restore [.ref 0, .int 1] σ (some (.int (-3))) σ := by
  show px_W L xs mX2_restore (0, [some (.ref 0), some (.int 1)], []) (sh0, σ) _
  refine px_W.run 1 (f' := (1, [some (.ref 0), some (.int 1)], [.int 1])) (h' := (sh0, σ)) rfl ?_
  refine px_W.if_lt rfl (fun c1 => absurd c1 (by decide)) (fun c1 => ?_)
  refine px_W.run 2 (f' := (6, [some (.ref 0), some (.int 1)], [.int 2, .int 1])) (h' := (sh0, σ)) rfl ?_
  refine px_W.icmp_lt rfl (fun c2 => ?_) (fun c2 => absurd (by decide) c2)
  refine px_W.run 1 (f' := (13, [some (.ref 0), some (.int 1)], [.int 1])) (h' := (sh0, σ)) rfl ?_
  refine px_W.if_ne rfl (fun c3 => absurd c3 (by decide)) (fun c3 => ?_)
  refine px_W.run 2 (f' := (30, [some (.ref 0), some (.int 1)], [.int (σ 0 7)])) (h' := (sh0, σ)) rfl ?_
  refine px_W.if_ne rfl (fun c4 => ?_) (fun c4 => absurd (hk) c4)
  refine px_W.run 1 (f' := (35, [some (.ref 0), some (.int 1)], [.int ((-3))])) (h' := (sh0, σ)) rfl ?_
  exact px_W.iret rfl rfl ⟨rfl, rfl⟩
theorem tX_restore_1 {L : Nat} {xs : Nat → Int32} (σ : px_Sg) (hk : σ 0 7 = 1) (hz : σ 28 9 = 0 ∨ σ 28 9 = 1) : px_E L xs mX2_restore [.ref 0, .int 1] σ (some (.int 1)) (s_copy_1_28 σ) := by
  show px_W L xs mX2_restore (0, [some (.ref 0), some (.int 1)], []) (sh0, σ) _
  refine px_W.run 1 (f' := (1, [some (.ref 0), some (.int 1)], [.int 1])) (h' := (sh0, σ)) rfl ?_
  refine px_W.if_lt rfl (fun c1 => absurd c1 (by decide)) (fun c1 => ?_)
  refine px_W.run 2 (f' := (6, [some (.ref 0), some (.int 1)], [.int 2, .int 1])) (h' := (sh0, σ)) rfl ?_
  refine px_W.icmp_lt rfl (fun c2 => ?_) (fun c2 => absurd (by decide) c2)
  refine px_W.run 1 (f' := (13, [some (.ref 0), some (.int 1)], [.int 1])) (h' := (sh0, σ)) rfl ?_
  refine px_W.if_ne rfl (fun c3 => absurd c3 (by decide)) (fun c3 => ?_)
  refine px_W.run 2 (f' := (30, [some (.ref 0), some (.int 1)], [.int (σ 0 7)])) (h' := (sh0, σ)) rfl ?_
  refine px_W.if_ne rfl (fun c4 => absurd c4 (by rw [hk]; decide)) (fun c4 => ?_)
  refine px_W.run 3 (f' := (41, [some (.ref 0), some (.int 1)], [.int 1, .ref 1])) (h' := (sh0, σ)) rfl ?_
  refine px_W.if_ne rfl (fun c5 => absurd c5 (by decide)) (fun c5 => ?_)
  refine px_W.run 2 (f' := (55, [some (.ref 0), some (.int 1)], [.ref 28, .ref 1])) (h' := (sh0, σ)) rfl ?_
  refine px_W.cE (as := [.ref 1, .ref 28]) (st := []) (v := none) (σ' := (s_copy_1_28 σ)) rfl rfl rfl (t_copy_1_28 σ hz) ?_
  refine px_W.run 1 (f' := (59, [some (.ref 0), some (.int 1)], [.int 1])) (h' := (sh0, (s_copy_1_28 σ))) rfl ?_
  exact px_W.iret rfl rfl ⟨rfl, rfl⟩
theorem tM_restoreN1 {L : Nat} {xs : Nat → Int32} (σ : px_Sg) (hk : σ 55 1 = 0) : px_E L xs mX3_restore [.ref 40, .int 1] σ (some (.int (-3))) σ := by
  show px_W L xs mX3_restore (0, [some (.ref 40), some (.int 1), none, none], []) (sh0, σ) _
  refine px_W.run 3 (f' := (3, [some (.ref 40), some (.int 1), none, none], [.int 1, .int 0, .int 1])) (h' := (sh0, σ)) rfl ?_
  refine px_W.cE (as := [.int 1, .int 0, .int 1]) (st := []) (v := some (.int (bo (iB 1 0 1)))) (σ' := σ) rfl rfl rfl (t_in σ 1 0 1) ?_
  refine px_W.if_ne rfl (fun c1 => absurd c1 (by decide)) (fun c1 => ?_)
  refine px_W.run 3 (f' := (17, [some (.ref 40), some (.int 1), none, none], [.int 1, .ref 55])) (h' := (sh0, σ)) rfl ?_
  refine px_W.zald rfl rfl (i := 1) (by decide) (by decide) (by decide) ?_
  refine px_W.if_ne rfl (fun c2 => ?_) (fun c2 => absurd (hk) c2)
  refine px_W.run 1 (f' := (23, [some (.ref 40), some (.int 1), none, none], [.int ((-3))])) (h' := (sh0, σ)) rfl ?_
  exact px_W.iret rfl rfl ⟨rfl, rfl⟩
def sM_restore1 (σ : px_Sg)  : px_Sg := (px_up (px_up (px_up (px_up (px_up (px_up (px_up (px_up (px_up (px_up σ 41 (cpn (fun k => σ 54 (90 + k)) (σ 41) 8)) 42 (cpn (fun k => σ 54 (90 + (8 + k))) (σ 42) 8)) 43 (cpn (fun k => σ 54 (90 + (16 + k))) (σ 43) 8)) 44 (cpn (fun k => σ 54 (90 + (24 + k))) (σ 44) 8)) 45 (cpn (fun k => σ 54 (90 + (32 + k))) (σ 45) 8)) 47 (cpn (fun k => σ 54 (130 + k)) (σ 47) 24)) 46 (cpn (fun k => σ 54 (154 + k)) (σ 46) 4)) 40 (upd (σ 40) 5 (σ 54 (90 + 70)))) 40 (upd (upd (σ 40) 5 (σ 54 (90 + 70))) 6 (σ 54 (90 + 71)))) 40 (upd (upd (upd (σ 40) 5 (σ 54 (90 + 70))) 6 (σ 54 (90 + 71))) 8 (σ 54 (90 + 72))))
theorem tM_restore_1 {L : Nat} {xs : Nat → Int32} (σ : px_Sg) (hk : σ 55 1 = 1) : px_E L xs mX3_restore [.ref 40, .int 1] σ (some (.int 1)) (sM_restore1 σ ) := by
  show px_W L xs mX3_restore (0, [some (.ref 40), some (.int 1), none, none], []) (sh0, σ) _
  refine px_W.run 3 (f' := (3, [some (.ref 40), some (.int 1), none, none], [.int 1, .int 0, .int 1])) (h' := (sh0, σ)) rfl ?_
  refine px_W.cE (as := [.int 1, .int 0, .int 1]) (st := []) (v := some (.int (bo (iB 1 0 1)))) (σ' := σ) rfl rfl rfl (t_in σ 1 0 1) ?_
  refine px_W.if_ne rfl (fun c1 => absurd c1 (by decide)) (fun c1 => ?_)
  refine px_W.run 3 (f' := (17, [some (.ref 40), some (.int 1), none, none], [.int 1, .ref 55])) (h' := (sh0, σ)) rfl ?_
  refine px_W.zald rfl rfl (i := 1) (by decide) (by decide) (by decide) ?_
  refine px_W.if_ne rfl (fun c2 => absurd c2 (by rw [hk]; decide)) (fun c2 => ?_)
  refine px_W.run 6 (f' := (31, [some (.ref 40), some (.int 1), some (.int (90 * 1)), some (.int 0)], [])) (h' := (sh0, σ)) rfl ?_
  refine px_W.to (f' := (31, [some (.ref 40), some (.int 1), some (.int (90 * 1)), some (.int (cI 0))], [])) (h' := (sh0, (px_up (px_up (px_up (px_up (px_up σ 41 (cpn (fun k => σ 54 (90 + k)) (σ 41) 0)) 42 (cpn (fun k => σ 54 (90 + (8 + k))) (σ 42) 0)) 43 (cpn (fun k => σ 54 (90 + (16 + k))) (σ 43) 0)) 44 (cpn (fun k => σ 54 (90 + (24 + k))) (σ 44) 0)) 45 (cpn (fun k => σ 54 (90 + (32 + k))) (σ 45) 0)))) (by simp only [cpn_0, px_up5s]; rfl) ?_
  refine px_W.loop (8) (fun i => ((31, [some (.ref 40), some (.int 1), some (.int (90 * 1)), some (.int (cI i))], []), (sh0, (px_up (px_up (px_up (px_up (px_up σ 41 (cpn (fun k => σ 54 (90 + k)) (σ 41) i)) 42 (cpn (fun k => σ 54 (90 + (8 + k))) (σ 42) i)) 43 (cpn (fun k => σ 54 (90 + (16 + k))) (σ 43) i)) 44 (cpn (fun k => σ 54 (90 + (24 + k))) (σ 44) i)) 45 (cpn (fun k => σ 54 (90 + (32 + k))) (σ 45) i))))) (fun _ => True) (trivial) (fun i hi hIi ki => ?_) (fun hIi => ?_)
  · refine px_W.run 2 (f' := (34, [some (.ref 40), some (.int 1), some (.int (90 * 1)), some (.int (cI i))], [.int 8, .int (cI i)])) (h' := (sh0, (px_up (px_up (px_up (px_up (px_up σ 41 (cpn (fun k => σ 54 (90 + k)) (σ 41) i)) 42 (cpn (fun k => σ 54 (90 + (8 + k))) (σ 42) i)) 43 (cpn (fun k => σ 54 (90 + (16 + k))) (σ 43) i)) 44 (cpn (fun k => σ 54 (90 + (24 + k))) (σ 44) i)) 45 (cpn (fun k => σ 54 (90 + (32 + k))) (σ 45) i)))) rfl ?_
    refine px_W.icmp_ge rfl (fun c3 => absurd c3 (ge_no 8 hi (by decide))) (fun c3 => ?_)
    refine px_W.run 8 (f' := (49, [some (.ref 40), some (.int 1), some (.int (90 * 1)), some (.int (cI i))], [.int ((90 * 1) + (cI i)), .ref 54, .int (cI i), .ref 41])) (h' := (sh0, (px_up (px_up (px_up (px_up (px_up σ 41 (cpn (fun k => σ 54 (90 + k)) (σ 41) i)) 42 (cpn (fun k => σ 54 (90 + (8 + k))) (σ 42) i)) 43 (cpn (fun k => σ 54 (90 + (16 + k))) (σ 43) i)) 44 (cpn (fun k => σ 54 (90 + (24 + k))) (σ 44) i)) 45 (cpn (fun k => σ 54 (90 + (32 + k))) (σ 45) i)))) rfl ?_
    refine px_W.iald rfl rfl (i := 90 + i) (by rw [cI_n]; exact (nI_add 90 i).trans (congrArg nI (by omega))) (by omega) (by decide) ?_
    refine px_W.iast rfl rfl (i := i) (cI_n _) (by omega) (by decide) ?_
    refine px_W.run 10 (f' := (66, [some (.ref 40), some (.int 1), some (.int (90 * 1)), some (.int (cI i))], [.int (((90 * 1) + 8) + (cI i)), .ref 54, .int (cI i), .ref 42])) (h' := (sh0, (px_up (px_up (px_up (px_up (px_up (px_up σ 41 (cpn (fun k => σ 54 (90 + k)) (σ 41) i)) 42 (cpn (fun k => σ 54 (90 + (8 + k))) (σ 42) i)) 43 (cpn (fun k => σ 54 (90 + (16 + k))) (σ 43) i)) 44 (cpn (fun k => σ 54 (90 + (24 + k))) (σ 44) i)) 45 (cpn (fun k => σ 54 (90 + (32 + k))) (σ 45) i)) 41 (upd (cpn (fun k => σ 54 (90 + k)) (σ 41) i) i (σ 54 (90 + i)))))) rfl ?_
    refine px_W.iald rfl rfl (i := 90 + (8 + i)) (by rw [cI_n]; exact (nI_add 98 i).trans (congrArg nI (by omega))) (by omega) (by decide) ?_
    refine px_W.iast rfl rfl (i := i) (cI_n _) (by omega) (by decide) ?_
    refine px_W.run 10 (f' := (83, [some (.ref 40), some (.int 1), some (.int (90 * 1)), some (.int (cI i))], [.int (((90 * 1) + 16) + (cI i)), .ref 54, .int (cI i), .ref 43])) (h' := (sh0, (px_up (px_up (px_up (px_up (px_up (px_up (px_up σ 41 (cpn (fun k => σ 54 (90 + k)) (σ 41) i)) 42 (cpn (fun k => σ 54 (90 + (8 + k))) (σ 42) i)) 43 (cpn (fun k => σ 54 (90 + (16 + k))) (σ 43) i)) 44 (cpn (fun k => σ 54 (90 + (24 + k))) (σ 44) i)) 45 (cpn (fun k => σ 54 (90 + (32 + k))) (σ 45) i)) 41 (upd (cpn (fun k => σ 54 (90 + k)) (σ 41) i) i (σ 54 (90 + i)))) 42 (upd (cpn (fun k => σ 54 (90 + (8 + k))) (σ 42) i) i (σ 54 (90 + (8 + i))))))) rfl ?_
    refine px_W.iald rfl rfl (i := 90 + (16 + i)) (by rw [cI_n]; exact (nI_add 106 i).trans (congrArg nI (by omega))) (by omega) (by decide) ?_
    refine px_W.iast rfl rfl (i := i) (cI_n _) (by omega) (by decide) ?_
    refine px_W.run 10 (f' := (100, [some (.ref 40), some (.int 1), some (.int (90 * 1)), some (.int (cI i))], [.int (((90 * 1) + 24) + (cI i)), .ref 54, .int (cI i), .ref 44])) (h' := (sh0, (px_up (px_up (px_up (px_up (px_up (px_up (px_up (px_up σ 41 (cpn (fun k => σ 54 (90 + k)) (σ 41) i)) 42 (cpn (fun k => σ 54 (90 + (8 + k))) (σ 42) i)) 43 (cpn (fun k => σ 54 (90 + (16 + k))) (σ 43) i)) 44 (cpn (fun k => σ 54 (90 + (24 + k))) (σ 44) i)) 45 (cpn (fun k => σ 54 (90 + (32 + k))) (σ 45) i)) 41 (upd (cpn (fun k => σ 54 (90 + k)) (σ 41) i) i (σ 54 (90 + i)))) 42 (upd (cpn (fun k => σ 54 (90 + (8 + k))) (σ 42) i) i (σ 54 (90 + (8 + i))))) 43 (upd (cpn (fun k => σ 54 (90 + (16 + k))) (σ 43) i) i (σ 54 (90 + (16 + i))))))) rfl ?_
    refine px_W.iald rfl rfl (i := 90 + (24 + i)) (by rw [cI_n]; exact (nI_add 114 i).trans (congrArg nI (by omega))) (by omega) (by decide) ?_
    refine px_W.iast rfl rfl (i := i) (cI_n _) (by omega) (by decide) ?_
    refine px_W.run 10 (f' := (117, [some (.ref 40), some (.int 1), some (.int (90 * 1)), some (.int (cI i))], [.int (((90 * 1) + 32) + (cI i)), .ref 54, .int (cI i), .ref 45])) (h' := (sh0, (px_up (px_up (px_up (px_up (px_up (px_up (px_up (px_up (px_up σ 41 (cpn (fun k => σ 54 (90 + k)) (σ 41) i)) 42 (cpn (fun k => σ 54 (90 + (8 + k))) (σ 42) i)) 43 (cpn (fun k => σ 54 (90 + (16 + k))) (σ 43) i)) 44 (cpn (fun k => σ 54 (90 + (24 + k))) (σ 44) i)) 45 (cpn (fun k => σ 54 (90 + (32 + k))) (σ 45) i)) 41 (upd (cpn (fun k => σ 54 (90 + k)) (σ 41) i) i (σ 54 (90 + i)))) 42 (upd (cpn (fun k => σ 54 (90 + (8 + k))) (σ 42) i) i (σ 54 (90 + (8 + i))))) 43 (upd (cpn (fun k => σ 54 (90 + (16 + k))) (σ 43) i) i (σ 54 (90 + (16 + i))))) 44 (upd (cpn (fun k => σ 54 (90 + (24 + k))) (σ 44) i) i (σ 54 (90 + (24 + i))))))) rfl ?_
    refine px_W.iald rfl rfl (i := 90 + (32 + i)) (by rw [cI_n]; exact (nI_add 122 i).trans (congrArg nI (by omega))) (by omega) (by decide) ?_
    refine px_W.iast rfl rfl (i := i) (cI_n _) (by omega) (by decide) ?_
    refine px_W.run 2 (f' := (31, [some (.ref 40), some (.int 1), some (.int (90 * 1)), some (.int ((cI i) + 1))], [])) (h' := (sh0, (px_up (px_up (px_up (px_up (px_up (px_up (px_up (px_up (px_up (px_up σ 41 (cpn (fun k => σ 54 (90 + k)) (σ 41) i)) 42 (cpn (fun k => σ 54 (90 + (8 + k))) (σ 42) i)) 43 (cpn (fun k => σ 54 (90 + (16 + k))) (σ 43) i)) 44 (cpn (fun k => σ 54 (90 + (24 + k))) (σ 44) i)) 45 (cpn (fun k => σ 54 (90 + (32 + k))) (σ 45) i)) 41 (upd (cpn (fun k => σ 54 (90 + k)) (σ 41) i) i (σ 54 (90 + i)))) 42 (upd (cpn (fun k => σ 54 (90 + (8 + k))) (σ 42) i) i (σ 54 (90 + (8 + i))))) 43 (upd (cpn (fun k => σ 54 (90 + (16 + k))) (σ 43) i) i (σ 54 (90 + (16 + i))))) 44 (upd (cpn (fun k => σ 54 (90 + (24 + k))) (σ 44) i) i (σ 54 (90 + (24 + i))))) 45 (upd (cpn (fun k => σ 54 (90 + (32 + k))) (σ 45) i) i (σ 54 (90 + (32 + i))))))) rfl ?_
    exact px_W.to (by rw [px_up5, cpn_s (fun k => σ 54 (90 + k)), cpn_s (fun k => σ 54 (90 + (8 + k))), cpn_s (fun k => σ 54 (90 + (16 + k))), cpn_s (fun k => σ 54 (90 + (24 + k))), cpn_s (fun k => σ 54 (90 + (32 + k)))]; rfl) (ki trivial)
  · refine px_W.run 2 (f' := (34, [some (.ref 40), some (.int 1), some (.int (90 * 1)), some (.int (cI 8))], [.int 8, .int (cI 8)])) (h' := (sh0, (px_up (px_up (px_up (px_up (px_up σ 41 (cpn (fun k => σ 54 (90 + k)) (σ 41) 8)) 42 (cpn (fun k => σ 54 (90 + (8 + k))) (σ 42) 8)) 43 (cpn (fun k => σ 54 (90 + (16 + k))) (σ 43) 8)) 44 (cpn (fun k => σ 54 (90 + (24 + k))) (σ 44) 8)) 45 (cpn (fun k => σ 54 (90 + (32 + k))) (σ 45) 8)))) rfl ?_
    refine px_W.icmp_ge rfl (fun c4 => ?_) (fun c4 => absurd (ge_yes 8 (by decide)) c4)
    refine px_W.run 2 (f' := (127, [some (.ref 40), some (.int 1), some (.int (90 * 1)), some (.int 0)], [])) (h' := (sh0, (px_up (px_up (px_up (px_up (px_up σ 41 (cpn (fun k => σ 54 (90 + k)) (σ 41) 8)) 42 (cpn (fun k => σ 54 (90 + (8 + k))) (σ 42) 8)) 43 (cpn (fun k => σ 54 (90 + (16 + k))) (σ 43) 8)) 44 (cpn (fun k => σ 54 (90 + (24 + k))) (σ 44) 8)) 45 (cpn (fun k => σ 54 (90 + (32 + k))) (σ 45) 8)))) rfl ?_
    refine px_W.to (f' := (127, [some (.ref 40), some (.int 1), some (.int (90 * 1)), some (.int (cI 0))], [])) (h' := (sh0, (px_up (px_up (px_up (px_up (px_up (px_up σ 41 (cpn (fun k => σ 54 (90 + k)) (σ 41) 8)) 42 (cpn (fun k => σ 54 (90 + (8 + k))) (σ 42) 8)) 43 (cpn (fun k => σ 54 (90 + (16 + k))) (σ 43) 8)) 44 (cpn (fun k => σ 54 (90 + (24 + k))) (σ 44) 8)) 45 (cpn (fun k => σ 54 (90 + (32 + k))) (σ 45) 8)) 47 (cpn (fun k => σ 54 (130 + k)) (σ 47) 0)))) (by rw [cpn_0]; exact Prod.ext rfl (Prod.ext rfl (px_up_id rfl).symm)) ?_
    refine px_W.loop (24) (fun i => ((127, [some (.ref 40), some (.int 1), some (.int (90 * 1)), some (.int (cI i))], []), (sh0, (px_up (px_up (px_up (px_up (px_up (px_up σ 41 (cpn (fun k => σ 54 (90 + k)) (σ 41) 8)) 42 (cpn (fun k => σ 54 (90 + (8 + k))) (σ 42) 8)) 43 (cpn (fun k => σ 54 (90 + (16 + k))) (σ 43) 8)) 44 (cpn (fun k => σ 54 (90 + (24 + k))) (σ 44) 8)) 45 (cpn (fun k => σ 54 (90 + (32 + k))) (σ 45) 8)) 47 (cpn (fun k => σ 54 (130 + k)) (σ 47) i))))) (fun _ => True) (trivial) (fun i hi hIi ki => ?_) (fun hIi => ?_)
    · refine px_W.run 2 (f' := (130, [some (.ref 40), some (.int 1), some (.int (90 * 1)), some (.int (cI i))], [.int 24, .int (cI i)])) (h' := (sh0, (px_up (px_up (px_up (px_up (px_up (px_up σ 41 (cpn (fun k => σ 54 (90 + k)) (σ 41) 8)) 42 (cpn (fun k => σ 54 (90 + (8 + k))) (σ 42) 8)) 43 (cpn (fun k => σ 54 (90 + (16 + k))) (σ 43) 8)) 44 (cpn (fun k => σ 54 (90 + (24 + k))) (σ 44) 8)) 45 (cpn (fun k => σ 54 (90 + (32 + k))) (σ 45) 8)) 47 (cpn (fun k => σ 54 (130 + k)) (σ 47) i)))) rfl ?_
      refine px_W.icmp_ge rfl (fun c5 => absurd c5 (ge_no 24 hi (by decide))) (fun c5 => ?_)
      refine px_W.run 10 (f' := (148, [some (.ref 40), some (.int 1), some (.int (90 * 1)), some (.int (cI i))], [.int (((90 * 1) + 40) + (cI i)), .ref 54, .int (cI i), .ref 47])) (h' := (sh0, (px_up (px_up (px_up (px_up (px_up (px_up σ 41 (cpn (fun k => σ 54 (90 + k)) (σ 41) 8)) 42 (cpn (fun k => σ 54 (90 + (8 + k))) (σ 42) 8)) 43 (cpn (fun k => σ 54 (90 + (16 + k))) (σ 43) 8)) 44 (cpn (fun k => σ 54 (90 + (24 + k))) (σ 44) 8)) 45 (cpn (fun k => σ 54 (90 + (32 + k))) (σ 45) 8)) 47 (cpn (fun k => σ 54 (130 + k)) (σ 47) i)))) rfl ?_
      refine px_W.iald rfl rfl (i := 130 + i) (by rw [cI_n]; exact nI_add 130 i) (by omega) (by decide) ?_
      refine px_W.iast rfl rfl (i := i) (cI_n _) (by omega) (by decide) ?_
      refine px_W.run 2 (f' := (127, [some (.ref 40), some (.int 1), some (.int (90 * 1)), some (.int ((cI i) + 1))], [])) (h' := (sh0, (px_up (px_up (px_up (px_up (px_up (px_up (px_up σ 41 (cpn (fun k => σ 54 (90 + k)) (σ 41) 8)) 42 (cpn (fun k => σ 54 (90 + (8 + k))) (σ 42) 8)) 43 (cpn (fun k => σ 54 (90 + (16 + k))) (σ 43) 8)) 44 (cpn (fun k => σ 54 (90 + (24 + k))) (σ 44) 8)) 45 (cpn (fun k => σ 54 (90 + (32 + k))) (σ 45) 8)) 47 (cpn (fun k => σ 54 (130 + k)) (σ 47) i)) 47 (upd (cpn (fun k => σ 54 (130 + k)) (σ 47) i) i (σ 54 (130 + i)))))) rfl ?_
      exact px_W.to (by rw [px_upup, cpn_s (fun k => σ 54 (130 + k))]; rfl) (ki trivial)
    · refine px_W.run 2 (f' := (130, [some (.ref 40), some (.int 1), some (.int (90 * 1)), some (.int (cI 24))], [.int 24, .int (cI 24)])) (h' := (sh0, (px_up (px_up (px_up (px_up (px_up (px_up σ 41 (cpn (fun k => σ 54 (90 + k)) (σ 41) 8)) 42 (cpn (fun k => σ 54 (90 + (8 + k))) (σ 42) 8)) 43 (cpn (fun k => σ 54 (90 + (16 + k))) (σ 43) 8)) 44 (cpn (fun k => σ 54 (90 + (24 + k))) (σ 44) 8)) 45 (cpn (fun k => σ 54 (90 + (32 + k))) (σ 45) 8)) 47 (cpn (fun k => σ 54 (130 + k)) (σ 47) 24)))) rfl ?_
      refine px_W.icmp_ge rfl (fun c6 => ?_) (fun c6 => absurd (ge_yes 24 (by decide)) c6)
      refine px_W.run 2 (f' := (158, [some (.ref 40), some (.int 1), some (.int (90 * 1)), some (.int 0)], [])) (h' := (sh0, (px_up (px_up (px_up (px_up (px_up (px_up σ 41 (cpn (fun k => σ 54 (90 + k)) (σ 41) 8)) 42 (cpn (fun k => σ 54 (90 + (8 + k))) (σ 42) 8)) 43 (cpn (fun k => σ 54 (90 + (16 + k))) (σ 43) 8)) 44 (cpn (fun k => σ 54 (90 + (24 + k))) (σ 44) 8)) 45 (cpn (fun k => σ 54 (90 + (32 + k))) (σ 45) 8)) 47 (cpn (fun k => σ 54 (130 + k)) (σ 47) 24)))) rfl ?_
      refine px_W.to (f' := (158, [some (.ref 40), some (.int 1), some (.int (90 * 1)), some (.int (cI 0))], [])) (h' := (sh0, (px_up (px_up (px_up (px_up (px_up (px_up (px_up σ 41 (cpn (fun k => σ 54 (90 + k)) (σ 41) 8)) 42 (cpn (fun k => σ 54 (90 + (8 + k))) (σ 42) 8)) 43 (cpn (fun k => σ 54 (90 + (16 + k))) (σ 43) 8)) 44 (cpn (fun k => σ 54 (90 + (24 + k))) (σ 44) 8)) 45 (cpn (fun k => σ 54 (90 + (32 + k))) (σ 45) 8)) 47 (cpn (fun k => σ 54 (130 + k)) (σ 47) 24)) 46 (cpn (fun k => σ 54 (154 + k)) (σ 46) 0)))) (by rw [cpn_0]; exact Prod.ext rfl (Prod.ext rfl (px_up_id rfl).symm)) ?_
      refine px_W.loop (4) (fun i => ((158, [some (.ref 40), some (.int 1), some (.int (90 * 1)), some (.int (cI i))], []), (sh0, (px_up (px_up (px_up (px_up (px_up (px_up (px_up σ 41 (cpn (fun k => σ 54 (90 + k)) (σ 41) 8)) 42 (cpn (fun k => σ 54 (90 + (8 + k))) (σ 42) 8)) 43 (cpn (fun k => σ 54 (90 + (16 + k))) (σ 43) 8)) 44 (cpn (fun k => σ 54 (90 + (24 + k))) (σ 44) 8)) 45 (cpn (fun k => σ 54 (90 + (32 + k))) (σ 45) 8)) 47 (cpn (fun k => σ 54 (130 + k)) (σ 47) 24)) 46 (cpn (fun k => σ 54 (154 + k)) (σ 46) i))))) (fun _ => True) (trivial) (fun i hi hIi ki => ?_) (fun hIi => ?_)
      · refine px_W.run 2 (f' := (160, [some (.ref 40), some (.int 1), some (.int (90 * 1)), some (.int (cI i))], [.int 4, .int (cI i)])) (h' := (sh0, (px_up (px_up (px_up (px_up (px_up (px_up (px_up σ 41 (cpn (fun k => σ 54 (90 + k)) (σ 41) 8)) 42 (cpn (fun k => σ 54 (90 + (8 + k))) (σ 42) 8)) 43 (cpn (fun k => σ 54 (90 + (16 + k))) (σ 43) 8)) 44 (cpn (fun k => σ 54 (90 + (24 + k))) (σ 44) 8)) 45 (cpn (fun k => σ 54 (90 + (32 + k))) (σ 45) 8)) 47 (cpn (fun k => σ 54 (130 + k)) (σ 47) 24)) 46 (cpn (fun k => σ 54 (154 + k)) (σ 46) i)))) rfl ?_
        refine px_W.icmp_ge rfl (fun c7 => absurd c7 (ge_no 4 hi (by decide))) (fun c7 => ?_)
        refine px_W.run 10 (f' := (178, [some (.ref 40), some (.int 1), some (.int (90 * 1)), some (.int (cI i))], [.int (((90 * 1) + 64) + (cI i)), .ref 54, .int (cI i), .ref 46])) (h' := (sh0, (px_up (px_up (px_up (px_up (px_up (px_up (px_up σ 41 (cpn (fun k => σ 54 (90 + k)) (σ 41) 8)) 42 (cpn (fun k => σ 54 (90 + (8 + k))) (σ 42) 8)) 43 (cpn (fun k => σ 54 (90 + (16 + k))) (σ 43) 8)) 44 (cpn (fun k => σ 54 (90 + (24 + k))) (σ 44) 8)) 45 (cpn (fun k => σ 54 (90 + (32 + k))) (σ 45) 8)) 47 (cpn (fun k => σ 54 (130 + k)) (σ 47) 24)) 46 (cpn (fun k => σ 54 (154 + k)) (σ 46) i)))) rfl ?_
        refine px_W.iald rfl rfl (i := 154 + i) (by rw [cI_n]; exact nI_add 154 i) (by omega) (by decide) ?_
        refine px_W.iast rfl rfl (i := i) (cI_n _) (by omega) (by decide) ?_
        refine px_W.run 2 (f' := (158, [some (.ref 40), some (.int 1), some (.int (90 * 1)), some (.int ((cI i) + 1))], [])) (h' := (sh0, (px_up (px_up (px_up (px_up (px_up (px_up (px_up (px_up σ 41 (cpn (fun k => σ 54 (90 + k)) (σ 41) 8)) 42 (cpn (fun k => σ 54 (90 + (8 + k))) (σ 42) 8)) 43 (cpn (fun k => σ 54 (90 + (16 + k))) (σ 43) 8)) 44 (cpn (fun k => σ 54 (90 + (24 + k))) (σ 44) 8)) 45 (cpn (fun k => σ 54 (90 + (32 + k))) (σ 45) 8)) 47 (cpn (fun k => σ 54 (130 + k)) (σ 47) 24)) 46 (cpn (fun k => σ 54 (154 + k)) (σ 46) i)) 46 (upd (cpn (fun k => σ 54 (154 + k)) (σ 46) i) i (σ 54 (154 + i)))))) rfl ?_
        exact px_W.to (by rw [px_upup, cpn_s (fun k => σ 54 (154 + k))]; rfl) (ki trivial)
      · refine px_W.run 2 (f' := (160, [some (.ref 40), some (.int 1), some (.int (90 * 1)), some (.int (cI 4))], [.int 4, .int (cI 4)])) (h' := (sh0, (px_up (px_up (px_up (px_up (px_up (px_up (px_up σ 41 (cpn (fun k => σ 54 (90 + k)) (σ 41) 8)) 42 (cpn (fun k => σ 54 (90 + (8 + k))) (σ 42) 8)) 43 (cpn (fun k => σ 54 (90 + (16 + k))) (σ 43) 8)) 44 (cpn (fun k => σ 54 (90 + (24 + k))) (σ 44) 8)) 45 (cpn (fun k => σ 54 (90 + (32 + k))) (σ 45) 8)) 47 (cpn (fun k => σ 54 (130 + k)) (σ 47) 24)) 46 (cpn (fun k => σ 54 (154 + k)) (σ 46) 4)))) rfl ?_
        refine px_W.icmp_ge rfl (fun c8 => ?_) (fun c8 => absurd (ge_yes 4 (by decide)) c8)
        refine px_W.run 6 (f' := (195, [some (.ref 40), some (.int 1), some (.int (90 * 1)), some (.int (cI 4))], [.int ((90 * 1) + 70), .ref 54, .ref 40])) (h' := (sh0, (px_up (px_up (px_up (px_up (px_up (px_up (px_up σ 41 (cpn (fun k => σ 54 (90 + k)) (σ 41) 8)) 42 (cpn (fun k => σ 54 (90 + (8 + k))) (σ 42) 8)) 43 (cpn (fun k => σ 54 (90 + (16 + k))) (σ 43) 8)) 44 (cpn (fun k => σ 54 (90 + (24 + k))) (σ 44) 8)) 45 (cpn (fun k => σ 54 (90 + (32 + k))) (σ 45) 8)) 47 (cpn (fun k => σ 54 (130 + k)) (σ 47) 24)) 46 (cpn (fun k => σ 54 (154 + k)) (σ 46) 4)))) rfl ?_
        refine px_W.iald rfl rfl (i := 90 + 70) (by decide) (by decide) (by decide) ?_
        refine px_W.puti rfl rfl ?_
        refine px_W.run 6 (f' := (208, [some (.ref 40), some (.int 1), some (.int (90 * 1)), some (.int (cI 4))], [.int ((90 * 1) + 71), .ref 54, .ref 40])) (h' := (sh0, (px_up (px_up (px_up (px_up (px_up (px_up (px_up (px_up σ 41 (cpn (fun k => σ 54 (90 + k)) (σ 41) 8)) 42 (cpn (fun k => σ 54 (90 + (8 + k))) (σ 42) 8)) 43 (cpn (fun k => σ 54 (90 + (16 + k))) (σ 43) 8)) 44 (cpn (fun k => σ 54 (90 + (24 + k))) (σ 44) 8)) 45 (cpn (fun k => σ 54 (90 + (32 + k))) (σ 45) 8)) 47 (cpn (fun k => σ 54 (130 + k)) (σ 47) 24)) 46 (cpn (fun k => σ 54 (154 + k)) (σ 46) 4)) 40 (upd (σ 40) 5 (σ 54 (90 + 70)))))) rfl ?_
        refine px_W.iald rfl rfl (i := 90 + 71) (by decide) (by decide) (by decide) ?_
        refine px_W.puti rfl rfl ?_
        refine px_W.run 6 (f' := (221, [some (.ref 40), some (.int 1), some (.int (90 * 1)), some (.int (cI 4))], [.int ((90 * 1) + 72), .ref 54, .ref 40])) (h' := (sh0, (px_up (px_up (px_up (px_up (px_up (px_up (px_up (px_up (px_up σ 41 (cpn (fun k => σ 54 (90 + k)) (σ 41) 8)) 42 (cpn (fun k => σ 54 (90 + (8 + k))) (σ 42) 8)) 43 (cpn (fun k => σ 54 (90 + (16 + k))) (σ 43) 8)) 44 (cpn (fun k => σ 54 (90 + (24 + k))) (σ 44) 8)) 45 (cpn (fun k => σ 54 (90 + (32 + k))) (σ 45) 8)) 47 (cpn (fun k => σ 54 (130 + k)) (σ 47) 24)) 46 (cpn (fun k => σ 54 (154 + k)) (σ 46) 4)) 40 (upd (σ 40) 5 (σ 54 (90 + 70)))) 40 (upd (upd (σ 40) 5 (σ 54 (90 + 70))) 6 (σ 54 (90 + 71)))))) rfl ?_
        refine px_W.iald rfl rfl (i := 90 + 72) (by decide) (by decide) (by decide) ?_
        refine px_W.puti rfl rfl ?_
        refine px_W.run 1 (f' := (226, [some (.ref 40), some (.int 1), some (.int (90 * 1)), some (.int (cI 4))], [.int 1])) (h' := (sh0, (px_up (px_up (px_up (px_up (px_up (px_up (px_up (px_up (px_up (px_up σ 41 (cpn (fun k => σ 54 (90 + k)) (σ 41) 8)) 42 (cpn (fun k => σ 54 (90 + (8 + k))) (σ 42) 8)) 43 (cpn (fun k => σ 54 (90 + (16 + k))) (σ 43) 8)) 44 (cpn (fun k => σ 54 (90 + (24 + k))) (σ 44) 8)) 45 (cpn (fun k => σ 54 (90 + (32 + k))) (σ 45) 8)) 47 (cpn (fun k => σ 54 (130 + k)) (σ 47) 24)) 46 (cpn (fun k => σ 54 (154 + k)) (σ 46) 4)) 40 (upd (σ 40) 5 (σ 54 (90 + 70)))) 40 (upd (upd (σ 40) 5 (σ 54 (90 + 70))) 6 (σ 54 (90 + 71)))) 40 (upd (upd (upd (σ 40) 5 (σ 54 (90 + 70))) 6 (σ 54 (90 + 71))) 8 (σ 54 (90 + 72)))))) rfl ?_
        exact px_W.iret rfl rfl ⟨rfl, rfl⟩
