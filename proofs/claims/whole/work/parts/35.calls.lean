theorem ix3 (n : Nat) : 3 * nI n = nI (3 * n) := pk_mul 3 n
theorem ix3a (n : Nat) : 3 * nI n + 1 = nI (3 * n + 1) := by rw [ix3]; exact nI_1 _
theorem ix3b (n : Nat) : 3 * nI n + 2 = nI (3 * n + 2) := by rw [ix3]; exact nI_add _ 2
theorem tX_part0 {L : Nat} {xs : Nat → Int32} (σ : px_Sg) (p : Int32) (h : i8 p = false) (a b c : Int32) : px_E L xs mX2_part [.ref 0, .int p, .int a, .int b, .int c] σ (some (.int (-1))) σ := by
  show px_W L xs mX2_part (0, [some (.ref 0), some (.int p), some (.int a), some (.int b), some (.int c), none, none], []) (sh0, σ) _
  refine px_W.run 1 (f' := (1, [some (.ref 0), some (.int p), some (.int a), some (.int b), some (.int c), none, none], [.int p])) (h' := (sh0, σ)) rfl ?_
  refine px_W.cE (as := [.int p]) (st := []) (v := some (.int (bo (i8 p)))) (σ' := σ) rfl rfl rfl (t_isOfEight σ p) ?_
  refine px_W.if_ne rfl (fun c1 => ?_) (fun c1 => absurd (by rw [h]; decide) c1)
  refine px_W.run 1 (f' := (8, [some (.ref 0), some (.int p), some (.int a), some (.int b), some (.int c), none, none], [.int ((-1))])) (h' := (sh0, σ)) rfl ?_
  exact px_W.iret rfl rfl ⟨rfl, rfl⟩
theorem tX_part1 {L : Nat} {xs : Nat → Int32} (σ : px_Sg) {k : Nat} (hk : k < 8) (a b c : Int32) (hv : pvB k a b c = false) : px_E L xs mX2_part [.ref 0, .int (cI k), .int a, .int b, .int c] σ (some (.int (-2))) σ := by
  show px_W L xs mX2_part (0, [some (.ref 0), some (.int (cI k)), some (.int a), some (.int b), some (.int c), none, none], []) (sh0, σ) _
  refine px_W.run 1 (f' := (1, [some (.ref 0), some (.int (cI k)), some (.int a), some (.int b), some (.int c), none, none], [.int (cI k)])) (h' := (sh0, σ)) rfl ?_
  refine px_W.cE (as := [.int (cI k)]) (st := []) (v := some (.int (bo (i8 (cI k))))) (σ' := σ) rfl rfl rfl (t_isOfEight σ (cI k)) ?_
  refine px_W.if_ne rfl (fun c1 => absurd c1 (by rw [i8_k k hk]; decide)) (fun c1 => ?_)
  refine px_W.run 1 (f' := (10, [some (.ref 0), some (.int (cI k)), some (.int a), some (.int b), some (.int c), none, none], [.int b])) (h' := (sh0, σ)) rfl ?_
  refine px_W.if_lt rfl (fun c2 => ?_) (fun c2 => ?_)
  · refine px_W.run 4 (f' := (29, [some (.ref 0), some (.int (cI k)), some (.int a), some (.int b), some (.int c), some (.int 0), none], [.int 1, .int a])) (h' := (sh0, σ)) rfl ?_
    refine px_W.icmp_lt rfl (fun c3 => ?_) (fun c3 => ?_)
    · refine px_W.run 1 (f' := (53, [some (.ref 0), some (.int (cI k)), some (.int a), some (.int b), some (.int c), some (.int 0), none], [.int ((-2))])) (h' := (sh0, σ)) rfl ?_
      exact px_W.iret rfl rfl ⟨rfl, rfl⟩
    · refine px_W.run 2 (f' := (35, [some (.ref 0), some (.int (cI k)), some (.int a), some (.int b), some (.int c), some (.int 0), none], [.int 9, .int a])) (h' := (sh0, σ)) rfl ?_
      refine px_W.icmp_gt rfl (fun c4 => ?_) (fun c4 => ?_)
      · refine px_W.run 1 (f' := (53, [some (.ref 0), some (.int (cI k)), some (.int a), some (.int b), some (.int c), some (.int 0), none], [.int ((-2))])) (h' := (sh0, σ)) rfl ?_
        exact px_W.iret rfl rfl ⟨rfl, rfl⟩
      · refine px_W.run 1 (f' := (40, [some (.ref 0), some (.int (cI k)), some (.int a), some (.int b), some (.int c), some (.int 0), none], [.int 0])) (h' := (sh0, σ)) rfl ?_
        refine px_W.if_eq rfl (fun c5 => ?_) (fun c5 => absurd (by decide) c5)
        refine px_W.run 1 (f' := (53, [some (.ref 0), some (.int (cI k)), some (.int a), some (.int b), some (.int c), some (.int 0), none], [.int ((-2))])) (h' := (sh0, σ)) rfl ?_
        exact px_W.iret rfl rfl ⟨rfl, rfl⟩
  · refine px_W.run 4 (f' := (17, [some (.ref 0), some (.int (cI k)), some (.int a), some (.int b), some (.int c), none, none], [.int (1 <<< ((cI k) &&& 31)), .int b])) (h' := (sh0, σ)) rfl ?_
    refine px_W.icmp_ge rfl (fun c6 => ?_) (fun c6 => ?_)
    · refine px_W.run 4 (f' := (29, [some (.ref 0), some (.int (cI k)), some (.int a), some (.int b), some (.int c), some (.int 0), none], [.int 1, .int a])) (h' := (sh0, σ)) rfl ?_
      refine px_W.icmp_lt rfl (fun c7 => ?_) (fun c7 => ?_)
      · refine px_W.run 1 (f' := (53, [some (.ref 0), some (.int (cI k)), some (.int a), some (.int b), some (.int c), some (.int 0), none], [.int ((-2))])) (h' := (sh0, σ)) rfl ?_
        exact px_W.iret rfl rfl ⟨rfl, rfl⟩
      · refine px_W.run 2 (f' := (35, [some (.ref 0), some (.int (cI k)), some (.int a), some (.int b), some (.int c), some (.int 0), none], [.int 9, .int a])) (h' := (sh0, σ)) rfl ?_
        refine px_W.icmp_gt rfl (fun c8 => ?_) (fun c8 => ?_)
        · refine px_W.run 1 (f' := (53, [some (.ref 0), some (.int (cI k)), some (.int a), some (.int b), some (.int c), some (.int 0), none], [.int ((-2))])) (h' := (sh0, σ)) rfl ?_
          exact px_W.iret rfl rfl ⟨rfl, rfl⟩
        · refine px_W.run 1 (f' := (40, [some (.ref 0), some (.int (cI k)), some (.int a), some (.int b), some (.int c), some (.int 0), none], [.int 0])) (h' := (sh0, σ)) rfl ?_
          refine px_W.if_eq rfl (fun c9 => ?_) (fun c9 => absurd (by decide) c9)
          refine px_W.run 1 (f' := (53, [some (.ref 0), some (.int (cI k)), some (.int a), some (.int b), some (.int c), some (.int 0), none], [.int ((-2))])) (h' := (sh0, σ)) rfl ?_
          exact px_W.iret rfl rfl ⟨rfl, rfl⟩
    · refine px_W.run 5 (f' := (29, [some (.ref 0), some (.int (cI k)), some (.int a), some (.int b), some (.int c), some (.int 1), none], [.int 1, .int a])) (h' := (sh0, σ)) rfl ?_
      refine px_W.icmp_lt rfl (fun c10 => ?_) (fun c10 => ?_)
      · refine px_W.run 1 (f' := (53, [some (.ref 0), some (.int (cI k)), some (.int a), some (.int b), some (.int c), some (.int 1), none], [.int ((-2))])) (h' := (sh0, σ)) rfl ?_
        exact px_W.iret rfl rfl ⟨rfl, rfl⟩
      · refine px_W.run 2 (f' := (35, [some (.ref 0), some (.int (cI k)), some (.int a), some (.int b), some (.int c), some (.int 1), none], [.int 9, .int a])) (h' := (sh0, σ)) rfl ?_
        refine px_W.icmp_gt rfl (fun c11 => ?_) (fun c11 => ?_)
        · refine px_W.run 1 (f' := (53, [some (.ref 0), some (.int (cI k)), some (.int a), some (.int b), some (.int c), some (.int 1), none], [.int ((-2))])) (h' := (sh0, σ)) rfl ?_
          exact px_W.iret rfl rfl ⟨rfl, rfl⟩
        · refine px_W.run 1 (f' := (40, [some (.ref 0), some (.int (cI k)), some (.int a), some (.int b), some (.int c), some (.int 1), none], [.int 1])) (h' := (sh0, σ)) rfl ?_
          refine px_W.if_eq rfl (fun c12 => absurd c12 (by decide)) (fun c12 => ?_)
          refine px_W.run 1 (f' := (45, [some (.ref 0), some (.int (cI k)), some (.int a), some (.int b), some (.int c), some (.int 1), none], [.int c])) (h' := (sh0, σ)) rfl ?_
          refine px_W.cE (as := [.int c]) (st := []) (v := some (.int (bo (iS c)))) (σ' := σ) rfl rfl rfl (t_isSet σ c) ?_
          refine px_W.if_ne rfl (fun c13 => ?_) (fun c13 => ?_)
          · refine px_W.run 1 (f' := (53, [some (.ref 0), some (.int (cI k)), some (.int a), some (.int b), some (.int c), some (.int 1), none], [.int ((-2))])) (h' := (sh0, σ)) rfl ?_
            exact px_W.iret rfl rfl ⟨rfl, rfl⟩
          · exact absurd (pv_ok (k := k) (by assumption) (by assumption) (by assumption) (by assumption) (by assumption)) (by rw [hv]; decide)
def sX_part (σ : px_Sg) (k : Nat) (a b c : Int32) : px_Sg := (px_up (px_up (px_up (px_up σ 5 (unp (σ 5) (abS (σ 3) (on k)) 8)) 2 (upd (σ 2) k a)) 3 (upd (σ 3) k b)) 4 (upd (σ 4) k c))
theorem tX_part {L : Nat} {xs : Nat → Int32} (σ : px_Sg) {k : Nat} (hk : k < 8) (a b c : Int32) (hv : pvB k a b c = true) : px_E L xs mX2_part [.ref 0, .int (cI k), .int a, .int b, .int c] σ (some (.int (σ 2 k))) (sX_part σ k a b c) := by
  show px_W L xs mX2_part (0, [some (.ref 0), some (.int (cI k)), some (.int a), some (.int b), some (.int c), none, none], []) (sh0, σ) _
  refine px_W.run 1 (f' := (1, [some (.ref 0), some (.int (cI k)), some (.int a), some (.int b), some (.int c), none, none], [.int (cI k)])) (h' := (sh0, σ)) rfl ?_
  refine px_W.cE (as := [.int (cI k)]) (st := []) (v := some (.int (bo (i8 (cI k))))) (σ' := σ) rfl rfl rfl (t_isOfEight σ (cI k)) ?_
  refine px_W.if_ne rfl (fun c1 => absurd c1 (by rw [i8_k k hk]; decide)) (fun c1 => ?_)
  refine px_W.run 1 (f' := (10, [some (.ref 0), some (.int (cI k)), some (.int a), some (.int b), some (.int c), none, none], [.int b])) (h' := (sh0, σ)) rfl ?_
  refine px_W.if_lt rfl (fun c2 => absurd c2 ((pv hv).1)) (fun c2 => ?_)
  refine px_W.run 4 (f' := (17, [some (.ref 0), some (.int (cI k)), some (.int a), some (.int b), some (.int c), none, none], [.int (1 <<< ((cI k) &&& 31)), .int b])) (h' := (sh0, σ)) rfl ?_
  refine px_W.icmp_ge rfl (fun c3 => absurd c3 ((pv hv).2.1)) (fun c3 => ?_)
  refine px_W.run 5 (f' := (29, [some (.ref 0), some (.int (cI k)), some (.int a), some (.int b), some (.int c), some (.int 1), none], [.int 1, .int a])) (h' := (sh0, σ)) rfl ?_
  refine px_W.icmp_lt rfl (fun c4 => absurd c4 ((pv hv).2.2.1)) (fun c4 => ?_)
  refine px_W.run 2 (f' := (35, [some (.ref 0), some (.int (cI k)), some (.int a), some (.int b), some (.int c), some (.int 1), none], [.int 9, .int a])) (h' := (sh0, σ)) rfl ?_
  refine px_W.icmp_gt rfl (fun c5 => absurd c5 ((pv hv).2.2.2.1)) (fun c5 => ?_)
  refine px_W.run 1 (f' := (40, [some (.ref 0), some (.int (cI k)), some (.int a), some (.int b), some (.int c), some (.int 1), none], [.int 1])) (h' := (sh0, σ)) rfl ?_
  refine px_W.if_eq rfl (fun c6 => absurd c6 (by decide)) (fun c6 => ?_)
  refine px_W.run 1 (f' := (45, [some (.ref 0), some (.int (cI k)), some (.int a), some (.int b), some (.int c), some (.int 1), none], [.int c])) (h' := (sh0, σ)) rfl ?_
  refine px_W.cE (as := [.int c]) (st := []) (v := some (.int (bo (iS c)))) (σ' := σ) rfl rfl rfl (t_isSet σ c) ?_
  refine px_W.if_ne rfl (fun c7 => absurd c7 (by rw [(pv hv).2.2.2.2]; decide)) (fun c7 => ?_)
  refine px_W.run 4 (f' := (62, [some (.ref 0), some (.int (cI k)), some (.int a), some (.int b), some (.int c), some (.int 1), none], [.int (cI k), .ref 2])) (h' := (sh0, σ)) rfl ?_
  refine px_W.iald rfl rfl (i := k) (cI_n _) (hk) (by decide) ?_
  refine px_W.run 6 (f' := (74, [some (.ref 0), some (.int (cI k)), some (.int a), some (.int b), some (.int c), some (.int 1), some (.int (σ 2 k))], [.int (cI k), .ref 1, .ref 1])) (h' := (sh0, σ)) rfl ?_
  refine px_W.cE (as := [.ref 1, .int (cI k)]) (st := [.ref 1]) (v := some (.int (abS (σ 3) (on k)))) (σ' := σ) rfl rfl rfl (t1_withAllAbove σ) ?_
  refine px_W.cE (as := [.ref 1, .int (abS (σ 3) (on k))]) (st := []) (v := none) (σ' := (px_up σ 5 (unp (σ 5) (abS (σ 3) (on k)) 8))) rfl rfl rfl (t1_unpaint σ (abS (σ 3) (on k))) ?_
  refine px_W.run 5 (f' := (89, [some (.ref 0), some (.int (cI k)), some (.int a), some (.int b), some (.int c), some (.int 1), some (.int (σ 2 k))], [.int a, .int (cI k), .ref 2])) (h' := (sh0, (px_up σ 5 (unp (σ 5) (abS (σ 3) (on k)) 8)))) rfl ?_
  refine px_W.iast rfl rfl (i := k) (cI_n _) (hk) (by decide) ?_
  refine px_W.run 5 (f' := (99, [some (.ref 0), some (.int (cI k)), some (.int a), some (.int b), some (.int c), some (.int 1), some (.int (σ 2 k))], [.int b, .int (cI k), .ref 3])) (h' := (sh0, (px_up (px_up σ 5 (unp (σ 5) (abS (σ 3) (on k)) 8)) 2 (upd (σ 2) k a)))) rfl ?_
  refine px_W.iast rfl rfl (i := k) (cI_n _) (hk) (by decide) ?_
  refine px_W.run 5 (f' := (110, [some (.ref 0), some (.int (cI k)), some (.int a), some (.int b), some (.int c), some (.int 1), some (.int (σ 2 k))], [.int c, .int (cI k), .ref 4])) (h' := (sh0, (px_up (px_up (px_up σ 5 (unp (σ 5) (abS (σ 3) (on k)) 8)) 2 (upd (σ 2) k a)) 3 (upd (σ 3) k b)))) rfl ?_
  refine px_W.iast rfl rfl (i := k) (cI_n _) (hk) (by decide) ?_
  refine px_W.run 1 (f' := (113, [some (.ref 0), some (.int (cI k)), some (.int a), some (.int b), some (.int c), some (.int 1), some (.int (σ 2 k))], [.int (σ 2 k)])) (h' := (sh0, (px_up (px_up (px_up (px_up σ 5 (unp (σ 5) (abS (σ 3) (on k)) 8)) 2 (upd (σ 2) k a)) 3 (upd (σ 3) k b)) 4 (upd (σ 4) k c)))) rfl ?_
  exact px_W.iret rfl rfl ⟨rfl, rfl⟩
theorem tM_part0 {L : Nat} {xs : Nat → Int32} (σ : px_Sg) (p : Int32) (h : i8 p = false) (a b c : Int32) : px_E L xs mX3_part [.ref 40, .int p, .int a, .int b, .int c] σ (some (.int (-1))) σ := by
  show px_W L xs mX3_part (0, [some (.ref 40), some (.int p), some (.int a), some (.int b), some (.int c), none, none, none], []) (sh0, σ) _
  refine px_W.run 1 (f' := (1, [some (.ref 40), some (.int p), some (.int a), some (.int b), some (.int c), none, none, none], [.int p])) (h' := (sh0, σ)) rfl ?_
  refine px_W.cE (as := [.int p]) (st := []) (v := some (.int (bo (iB p 0 7)))) (σ' := σ) rfl rfl rfl (t_isOne σ p) ?_
  refine px_W.if_ne rfl (fun c1 => ?_) (fun c1 => absurd (by rw [i8_iB, h]; decide) c1)
  refine px_W.run 1 (f' := (8, [some (.ref 40), some (.int p), some (.int a), some (.int b), some (.int c), none, none, none], [.int ((-1))])) (h' := (sh0, σ)) rfl ?_
  exact px_W.iret rfl rfl ⟨rfl, rfl⟩
theorem pm_ok {k : Nat} (hk : k < 8) {h u g : Int32} (a1 : ¬ bo (iB h 1 9) = 0) (a2 : ¬ bo (iB u 0 (on k - 1)) = 0) (a3 : ¬ bo (iB g 0 255) = 0) : pvB k h u g = true := by
  have b1 := bo_n0.mp a1
  have b2 := bo_n0.mp a2
  have b3 := bo_n0.mp a3
  rw [iB_on hk] at b2
  unfold iB at b1
  rw [iS_iB] at b3
  unfold pvB
  rw [b2, b1, b3]
  rfl
theorem pm {k : Nat} (hk : k < 8) {h u g : Int32} (hv : pvB k h u g = true) : iB h 1 9 = true ∧ iB u 0 (on k - 1) = true ∧ iB g 0 255 = true := by
  obtain ⟨a1, a2, a3, a4, a5⟩ := pv hv
  rw [iB_on hk, iS_iB, a5]
  simp only [iB, a1, a2, a3, a4, decide_false, Bool.not_false, Bool.and_self, and_self]
theorem tM_part1 {L : Nat} {xs : Nat → Int32} (σ : px_Sg) {k : Nat} (hk : k < 8) (a b c : Int32) (hv : pvB k a b c = false) : px_E L xs mX3_part [.ref 40, .int (cI k), .int a, .int b, .int c] σ (some (.int (-2))) σ := by
  show px_W L xs mX3_part (0, [some (.ref 40), some (.int (cI k)), some (.int a), some (.int b), some (.int c), none, none, none], []) (sh0, σ) _
  refine px_W.run 1 (f' := (1, [some (.ref 40), some (.int (cI k)), some (.int a), some (.int b), some (.int c), none, none, none], [.int (cI k)])) (h' := (sh0, σ)) rfl ?_
  refine px_W.cE (as := [.int (cI k)]) (st := []) (v := some (.int (bo (iB (cI k) 0 7)))) (σ' := σ) rfl rfl rfl (t_isOne σ (cI k)) ?_
  refine px_W.if_ne rfl (fun c1 => absurd c1 (by rw [i8_iB, i8_k k hk]; decide)) (fun c1 => ?_)
  refine px_W.run 3 (f' := (13, [some (.ref 40), some (.int (cI k)), some (.int a), some (.int b), some (.int c), none, none, none], [.int 9, .int 1, .int a])) (h' := (sh0, σ)) rfl ?_
  refine px_W.cE (as := [.int a, .int 1, .int 9]) (st := []) (v := some (.int (bo (iB a 1 9)))) (σ' := σ) rfl rfl rfl (t_in σ a 1 9) ?_
  refine px_W.if_eq rfl (fun c2 => ?_) (fun c2 => ?_)
  · refine px_W.run 1 (f' := (46, [some (.ref 40), some (.int (cI k)), some (.int a), some (.int b), some (.int c), none, none, none], [.int ((-2))])) (h' := (sh0, σ)) rfl ?_
    exact px_W.iret rfl rfl ⟨rfl, rfl⟩
  · refine px_W.run 7 (f' := (26, [some (.ref 40), some (.int (cI k)), some (.int a), some (.int b), some (.int c), none, none, none], [.int ((1 <<< ((cI k) &&& 31)) - 1), .int 0, .int b])) (h' := (sh0, σ)) rfl ?_
    refine px_W.cE (as := [.int b, .int 0, .int ((1 <<< ((cI k) &&& 31)) - 1)]) (st := []) (v := some (.int (bo (iB b 0 ((1 <<< ((cI k) &&& 31)) - 1))))) (σ' := σ) rfl rfl rfl (t_in σ b 0 ((1 <<< ((cI k) &&& 31)) - 1)) ?_
    refine px_W.if_eq rfl (fun c3 => ?_) (fun c3 => ?_)
    · refine px_W.run 1 (f' := (46, [some (.ref 40), some (.int (cI k)), some (.int a), some (.int b), some (.int c), none, none, none], [.int ((-2))])) (h' := (sh0, σ)) rfl ?_
      exact px_W.iret rfl rfl ⟨rfl, rfl⟩
    · refine px_W.run 3 (f' := (38, [some (.ref 40), some (.int (cI k)), some (.int a), some (.int b), some (.int c), none, none, none], [.int 255, .int 0, .int c])) (h' := (sh0, σ)) rfl ?_
      refine px_W.cE (as := [.int c, .int 0, .int 255]) (st := []) (v := some (.int (bo (iB c 0 255)))) (σ' := σ) rfl rfl rfl (t_in σ c 0 255) ?_
      refine px_W.if_ne rfl (fun c4 => ?_) (fun c4 => ?_)
      · refine px_W.run 1 (f' := (46, [some (.ref 40), some (.int (cI k)), some (.int a), some (.int b), some (.int c), none, none, none], [.int ((-2))])) (h' := (sh0, σ)) rfl ?_
        exact px_W.iret rfl rfl ⟨rfl, rfl⟩
      · exact absurd (pm_ok (k := k) hk (by assumption) (by assumption) (by assumption)) (by rw [hv]; decide)
def sM_part (σ : px_Sg) (k : Nat) (a b c : Int32) : px_Sg := (px_up (px_up (px_up (px_up σ 44 (unp (σ 44) (abS (σ 42) (on k)) 8)) 41 (upd (σ 41) k a)) 42 (upd (σ 42) k b)) 43 (upd (σ 43) k c))
theorem tM_part {L : Nat} {xs : Nat → Int32} (σ : px_Sg) {k : Nat} (hk : k < 8) (a b c : Int32) (hv : pvB k a b c = true) : px_E L xs mX3_part [.ref 40, .int (cI k), .int a, .int b, .int c] σ (some (.int (σ 41 k))) (sM_part σ k a b c) := by
  show px_W L xs mX3_part (0, [some (.ref 40), some (.int (cI k)), some (.int a), some (.int b), some (.int c), none, none, none], []) (sh0, σ) _
  refine px_W.run 1 (f' := (1, [some (.ref 40), some (.int (cI k)), some (.int a), some (.int b), some (.int c), none, none, none], [.int (cI k)])) (h' := (sh0, σ)) rfl ?_
  refine px_W.cE (as := [.int (cI k)]) (st := []) (v := some (.int (bo (iB (cI k) 0 7)))) (σ' := σ) rfl rfl rfl (t_isOne σ (cI k)) ?_
  refine px_W.if_ne rfl (fun c1 => absurd c1 (by rw [i8_iB, i8_k k hk]; decide)) (fun c1 => ?_)
  refine px_W.run 3 (f' := (13, [some (.ref 40), some (.int (cI k)), some (.int a), some (.int b), some (.int c), none, none, none], [.int 9, .int 1, .int a])) (h' := (sh0, σ)) rfl ?_
  refine px_W.cE (as := [.int a, .int 1, .int 9]) (st := []) (v := some (.int (bo (iB a 1 9)))) (σ' := σ) rfl rfl rfl (t_in σ a 1 9) ?_
  refine px_W.if_eq rfl (fun c2 => absurd c2 (by rw [(pm hk hv).1]; decide)) (fun c2 => ?_)
  refine px_W.run 7 (f' := (26, [some (.ref 40), some (.int (cI k)), some (.int a), some (.int b), some (.int c), none, none, none], [.int ((1 <<< ((cI k) &&& 31)) - 1), .int 0, .int b])) (h' := (sh0, σ)) rfl ?_
  refine px_W.cE (as := [.int b, .int 0, .int ((1 <<< ((cI k) &&& 31)) - 1)]) (st := []) (v := some (.int (bo (iB b 0 ((1 <<< ((cI k) &&& 31)) - 1))))) (σ' := σ) rfl rfl rfl (t_in σ b 0 ((1 <<< ((cI k) &&& 31)) - 1)) ?_
  refine px_W.if_eq rfl (fun c3 => absurd c3 (bo_n0.mpr (pm hk hv).2.1)) (fun c3 => ?_)
  refine px_W.run 3 (f' := (38, [some (.ref 40), some (.int (cI k)), some (.int a), some (.int b), some (.int c), none, none, none], [.int 255, .int 0, .int c])) (h' := (sh0, σ)) rfl ?_
  refine px_W.cE (as := [.int c, .int 0, .int 255]) (st := []) (v := some (.int (bo (iB c 0 255)))) (σ' := σ) rfl rfl rfl (t_in σ c 0 255) ?_
  refine px_W.if_ne rfl (fun c4 => absurd c4 (by rw [(pm hk hv).2.2]; decide)) (fun c4 => ?_)
  refine px_W.run 3 (f' := (52, [some (.ref 40), some (.int (cI k)), some (.int a), some (.int b), some (.int c), none, none, none], [.int (cI k), .ref 41])) (h' := (sh0, σ)) rfl ?_
  refine px_W.iald rfl rfl (i := k) (cI_n _) (hk) (by decide) ?_
  refine px_W.run 5 (f' := (59, [some (.ref 40), some (.int (cI k)), some (.int a), some (.int b), some (.int c), some (.int (σ 41 k)), none, none], [.int (1 <<< ((cI k) &&& 31)), .ref 40])) (h' := (sh0, σ)) rfl ?_
  refine px_W.cE (as := [.ref 40, .int (1 <<< ((cI k) &&& 31))]) (st := []) (v := some (.int (abS (σ 42) (1 <<< ((cI k) &&& 31))))) (σ' := σ) rfl rfl rfl (t_above σ (1 <<< ((cI k) &&& 31))) ?_
  refine px_W.run 3 (f' := (67, [some (.ref 40), some (.int (cI k)), some (.int a), some (.int b), some (.int c), some (.int (σ 41 k)), some (.int (abS (σ 42) (1 <<< ((cI k) &&& 31)))), some (.int 0)], [])) (h' := (sh0, σ)) rfl ?_
  refine px_W.to (f' := (67, [some (.ref 40), some (.int (cI k)), some (.int a), some (.int b), some (.int c), some (.int (σ 41 k)), some (.int (abS (σ 42) (1 <<< ((cI k) &&& 31)))), some (.int (cI 0))], [])) (h' := (sh0, (px_up σ 44 (unp (σ 44) (abS (σ 42) (on k)) 0)))) (by simp [unp, px_up_self, cI]) ?_
  refine px_W.loop (8) (fun i => ((67, [some (.ref 40), some (.int (cI k)), some (.int a), some (.int b), some (.int c), some (.int (σ 41 k)), some (.int (abS (σ 42) (1 <<< ((cI k) &&& 31)))), some (.int (cI i))], []), (sh0, (px_up σ 44 (unp (σ 44) (abS (σ 42) (on k)) i))))) (fun _ => True) (trivial) (fun i hi hIi ki => ?_) (fun hIi => ?_)
  · refine px_W.run 2 (f' := (71, [some (.ref 40), some (.int (cI k)), some (.int a), some (.int b), some (.int c), some (.int (σ 41 k)), some (.int (abS (σ 42) (1 <<< ((cI k) &&& 31)))), some (.int (cI i))], [.int 8, .int (cI i)])) (h' := (sh0, (px_up σ 44 (unp (σ 44) (abS (σ 42) (on k)) i)))) rfl ?_
    refine px_W.icmp_ge rfl (fun c5 => absurd c5 (ge_no 8 hi (by decide))) (fun c5 => ?_)
    refine px_W.run 5 (f' := (84, [some (.ref 40), some (.int (cI k)), some (.int a), some (.int b), some (.int c), some (.int (σ 41 k)), some (.int (abS (σ 42) (1 <<< ((cI k) &&& 31)))), some (.int (cI i))], [.int (cI i), .int (abS (σ 42) (1 <<< ((cI k) &&& 31))), .int (cI i), .ref 44])) (h' := (sh0, (px_up σ 44 (unp (σ 44) (abS (σ 42) (on k)) i)))) rfl ?_
    refine px_W.cE (as := [.int (abS (σ 42) (1 <<< ((cI k) &&& 31))), .int (cI i)]) (st := [.int (cI i), .ref 44]) (v := some (.int (bo (hb (abS (σ 42) (1 <<< ((cI k) &&& 31))) i)))) (σ' := (px_up σ 44 (unp (σ 44) (abS (σ 42) (on k)) i))) rfl rfl rfl (t_has (px_up σ 44 (unp (σ 44) (abS (σ 42) (on k)) i)) (abS (σ 42) (1 <<< ((cI k) &&& 31))) (k := i) hi) ?_
    refine px_W.if_eq rfl (fun c6 => ?_) (fun c6 => ?_)
    · refine px_W.run 3 (f' := (100, [some (.ref 40), some (.int (cI k)), some (.int a), some (.int b), some (.int c), some (.int (σ 41 k)), some (.int (abS (σ 42) (1 <<< ((cI k) &&& 31)))), some (.int (cI i))], [.int (cI i), .ref 44, .int (cI i), .ref 44])) (h' := (sh0, (px_up σ 44 (unp (σ 44) (abS (σ 42) (on k)) i)))) rfl ?_
      refine px_W.iald rfl rfl (i := i) (cI_n _) (hi) (by decide) ?_
      refine px_W.iast rfl rfl (i := i) (cI_n _) (hi) (by decide) ?_
      refine px_W.run 2 (f' := (67, [some (.ref 40), some (.int (cI k)), some (.int a), some (.int b), some (.int c), some (.int (σ 41 k)), some (.int (abS (σ 42) (1 <<< ((cI k) &&& 31)))), some (.int ((cI i) + 1))], [])) (h' := (sh0, (px_up (px_up σ 44 (unp (σ 44) (abS (σ 42) (on k)) i)) 44 (upd (unp (σ 44) (abS (σ 42) (on k)) i) i ((unp (σ 44) (abS (σ 42) (on k)) i) i))))) rfl ?_
      exact px_W.to (by first | (rw [px_upup, unp_t (bo_n0.mp (by assumption))]; rfl) | (rw [px_upup, upd_same, unp_f (bo_0.mp (by assumption))]; rfl)) (ki trivial)
    · refine px_W.run 2 (f' := (101, [some (.ref 40), some (.int (cI k)), some (.int a), some (.int b), some (.int c), some (.int (σ 41 k)), some (.int (abS (σ 42) (1 <<< ((cI k) &&& 31)))), some (.int (cI i))], [.int 0, .int (cI i), .ref 44])) (h' := (sh0, (px_up σ 44 (unp (σ 44) (abS (σ 42) (on k)) i)))) rfl ?_
      refine px_W.iast rfl rfl (i := i) (cI_n _) (hi) (by decide) ?_
      refine px_W.run 2 (f' := (67, [some (.ref 40), some (.int (cI k)), some (.int a), some (.int b), some (.int c), some (.int (σ 41 k)), some (.int (abS (σ 42) (1 <<< ((cI k) &&& 31)))), some (.int ((cI i) + 1))], [])) (h' := (sh0, (px_up (px_up σ 44 (unp (σ 44) (abS (σ 42) (on k)) i)) 44 (upd (unp (σ 44) (abS (σ 42) (on k)) i) i 0)))) rfl ?_
      exact px_W.to (by first | (rw [px_upup, unp_t (bo_n0.mp (by assumption))]; rfl) | (rw [px_upup, upd_same, unp_f (bo_0.mp (by assumption))]; rfl)) (ki trivial)
  · refine px_W.run 2 (f' := (71, [some (.ref 40), some (.int (cI k)), some (.int a), some (.int b), some (.int c), some (.int (σ 41 k)), some (.int (abS (σ 42) (1 <<< ((cI k) &&& 31)))), some (.int (cI 8))], [.int 8, .int (cI 8)])) (h' := (sh0, (px_up σ 44 (unp (σ 44) (abS (σ 42) (on k)) 8)))) rfl ?_
    refine px_W.icmp_ge rfl (fun c7 => ?_) (fun c7 => absurd (ge_yes 8 (by decide)) c7)
    refine px_W.run 4 (f' := (114, [some (.ref 40), some (.int (cI k)), some (.int a), some (.int b), some (.int c), some (.int (σ 41 k)), some (.int (abS (σ 42) (1 <<< ((cI k) &&& 31)))), some (.int (cI 8))], [.int a, .int (cI k), .ref 41])) (h' := (sh0, (px_up σ 44 (unp (σ 44) (abS (σ 42) (on k)) 8)))) rfl ?_
    refine px_W.iast rfl rfl (i := k) (cI_n _) (hk) (by decide) ?_
    refine px_W.run 4 (f' := (121, [some (.ref 40), some (.int (cI k)), some (.int a), some (.int b), some (.int c), some (.int (σ 41 k)), some (.int (abS (σ 42) (1 <<< ((cI k) &&& 31)))), some (.int (cI 8))], [.int b, .int (cI k), .ref 42])) (h' := (sh0, (px_up (px_up σ 44 (unp (σ 44) (abS (σ 42) (on k)) 8)) 41 (upd (σ 41) k a)))) rfl ?_
    refine px_W.iast rfl rfl (i := k) (cI_n _) (hk) (by decide) ?_
    refine px_W.run 4 (f' := (129, [some (.ref 40), some (.int (cI k)), some (.int a), some (.int b), some (.int c), some (.int (σ 41 k)), some (.int (abS (σ 42) (1 <<< ((cI k) &&& 31)))), some (.int (cI 8))], [.int c, .int (cI k), .ref 43])) (h' := (sh0, (px_up (px_up (px_up σ 44 (unp (σ 44) (abS (σ 42) (on k)) 8)) 41 (upd (σ 41) k a)) 42 (upd (σ 42) k b)))) rfl ?_
    refine px_W.iast rfl rfl (i := k) (cI_n _) (hk) (by decide) ?_
    refine px_W.run 1 (f' := (132, [some (.ref 40), some (.int (cI k)), some (.int a), some (.int b), some (.int c), some (.int (σ 41 k)), some (.int (abS (σ 42) (1 <<< ((cI k) &&& 31)))), some (.int (cI 8))], [.int (σ 41 k)])) (h' := (sh0, (px_up (px_up (px_up (px_up σ 44 (unp (σ 44) (abS (σ 42) (on k)) 8)) 41 (upd (σ 41) k a)) 42 (upd (σ 42) k b)) 43 (upd (σ 43) k c)))) rfl ?_
    exact px_W.iret rfl rfl ⟨rfl, rfl⟩
theorem tX_needs0 {L : Nat} {xs : Nat → Int32} (σ : px_Sg) (p : Int32) (h : i8 p = false) (q : Int32) : px_E L xs mX2_needs [.ref 0, .int p, .int q] σ (some (.int (-1))) σ := by
  show px_W L xs mX2_needs (0, [some (.ref 0), some (.int p), some (.int q), none], []) (sh0, σ) _
  refine px_W.run 1 (f' := (1, [some (.ref 0), some (.int p), some (.int q), none], [.int p])) (h' := (sh0, σ)) rfl ?_
  refine px_W.cE (as := [.int p]) (st := []) (v := some (.int (bo (i8 p)))) (σ' := σ) rfl rfl rfl (t_isOfEight σ p) ?_
  refine px_W.if_ne rfl (fun c1 => ?_) (fun c1 => absurd (by rw [h]; decide) c1)
  refine px_W.run 1 (f' := (8, [some (.ref 0), some (.int p), some (.int q), none], [.int ((-1))])) (h' := (sh0, σ)) rfl ?_
  exact px_W.iret rfl rfl ⟨rfl, rfl⟩
theorem tX_needs1 {L : Nat} {xs : Nat → Int32} (σ : px_Sg) {k : Nat} (hk : k < 8) (q : Int32) (hv : iS q = false) : px_E L xs mX2_needs [.ref 0, .int (cI k), .int q] σ (some (.int (-2))) σ := by
  show px_W L xs mX2_needs (0, [some (.ref 0), some (.int (cI k)), some (.int q), none], []) (sh0, σ) _
  refine px_W.run 1 (f' := (1, [some (.ref 0), some (.int (cI k)), some (.int q), none], [.int (cI k)])) (h' := (sh0, σ)) rfl ?_
  refine px_W.cE (as := [.int (cI k)]) (st := []) (v := some (.int (bo (i8 (cI k))))) (σ' := σ) rfl rfl rfl (t_isOfEight σ (cI k)) ?_
  refine px_W.if_ne rfl (fun c1 => absurd c1 (by rw [i8_k k hk]; decide)) (fun c1 => ?_)
  refine px_W.run 1 (f' := (10, [some (.ref 0), some (.int (cI k)), some (.int q), none], [.int q])) (h' := (sh0, σ)) rfl ?_
  refine px_W.cE (as := [.int q]) (st := []) (v := some (.int (bo (iS q)))) (σ' := σ) rfl rfl rfl (t_isSet σ q) ?_
  refine px_W.if_ne rfl (fun c2 => ?_) (fun c2 => absurd (by rw [hv]; decide) c2)
  refine px_W.run 1 (f' := (18, [some (.ref 0), some (.int (cI k)), some (.int q), none], [.int ((-2))])) (h' := (sh0, σ)) rfl ?_
  exact px_W.iret rfl rfl ⟨rfl, rfl⟩
def sX_needs (σ : px_Sg) (k : Nat) (q : Int32) : px_Sg := (px_up (px_up σ 6 (upd (σ 6) k q)) 1 (upd (σ 1) 8 ((σ 1 8) &&& ((1 <<< ((cI k) &&& 31)) ^^^ (-1)))))
theorem tX_needs {L : Nat} {xs : Nat → Int32} (σ : px_Sg) {k : Nat} (hk : k < 8) (q : Int32) (hv : iS q = true) : px_E L xs mX2_needs [.ref 0, .int (cI k), .int q] σ (some (.int (σ 6 k))) (sX_needs σ k q) := by
  show px_W L xs mX2_needs (0, [some (.ref 0), some (.int (cI k)), some (.int q), none], []) (sh0, σ) _
  refine px_W.run 1 (f' := (1, [some (.ref 0), some (.int (cI k)), some (.int q), none], [.int (cI k)])) (h' := (sh0, σ)) rfl ?_
  refine px_W.cE (as := [.int (cI k)]) (st := []) (v := some (.int (bo (i8 (cI k))))) (σ' := σ) rfl rfl rfl (t_isOfEight σ (cI k)) ?_
  refine px_W.if_ne rfl (fun c1 => absurd c1 (by rw [i8_k k hk]; decide)) (fun c1 => ?_)
  refine px_W.run 1 (f' := (10, [some (.ref 0), some (.int (cI k)), some (.int q), none], [.int q])) (h' := (sh0, σ)) rfl ?_
  refine px_W.cE (as := [.int q]) (st := []) (v := some (.int (bo (iS q)))) (σ' := σ) rfl rfl rfl (t_isSet σ q) ?_
  refine px_W.if_ne rfl (fun c2 => absurd c2 (by rw [hv]; decide)) (fun c2 => ?_)
  refine px_W.run 4 (f' := (27, [some (.ref 0), some (.int (cI k)), some (.int q), none], [.int (cI k), .ref 6])) (h' := (sh0, σ)) rfl ?_
  refine px_W.iald rfl rfl (i := k) (cI_n _) (hk) (by decide) ?_
  refine px_W.run 6 (f' := (38, [some (.ref 0), some (.int (cI k)), some (.int q), some (.int (σ 6 k))], [.int q, .int (cI k), .ref 6])) (h' := (sh0, σ)) rfl ?_
  refine px_W.iast rfl rfl (i := k) (cI_n _) (hk) (by decide) ?_
  refine px_W.run 10 (f' := (53, [some (.ref 0), some (.int (cI k)), some (.int q), some (.int (σ 6 k))], [.int ((σ 1 8) &&& ((1 <<< ((cI k) &&& 31)) ^^^ (-1))), .ref 1])) (h' := (sh0, (px_up σ 6 (upd (σ 6) k q)))) rfl ?_
  refine px_W.puti rfl rfl ?_
  refine px_W.run 1 (f' := (57, [some (.ref 0), some (.int (cI k)), some (.int q), some (.int (σ 6 k))], [.int (σ 6 k)])) (h' := (sh0, (px_up (px_up σ 6 (upd (σ 6) k q)) 1 (upd (σ 1) 8 ((σ 1 8) &&& ((1 <<< ((cI k) &&& 31)) ^^^ (-1))))))) rfl ?_
  exact px_W.iret rfl rfl ⟨rfl, rfl⟩
theorem tM_needs0 {L : Nat} {xs : Nat → Int32} (σ : px_Sg) (p : Int32) (h : i8 p = false) (q : Int32) : px_E L xs mX3_needs [.ref 40, .int p, .int q] σ (some (.int (-1))) σ := by
  show px_W L xs mX3_needs (0, [some (.ref 40), some (.int p), some (.int q), none], []) (sh0, σ) _
  refine px_W.run 1 (f' := (1, [some (.ref 40), some (.int p), some (.int q), none], [.int p])) (h' := (sh0, σ)) rfl ?_
  refine px_W.cE (as := [.int p]) (st := []) (v := some (.int (bo (iB p 0 7)))) (σ' := σ) rfl rfl rfl (t_isOne σ p) ?_
  refine px_W.if_ne rfl (fun c1 => ?_) (fun c1 => absurd (by rw [i8_iB, h]; decide) c1)
  refine px_W.run 1 (f' := (8, [some (.ref 40), some (.int p), some (.int q), none], [.int ((-1))])) (h' := (sh0, σ)) rfl ?_
  exact px_W.iret rfl rfl ⟨rfl, rfl⟩
theorem tM_needs1 {L : Nat} {xs : Nat → Int32} (σ : px_Sg) {k : Nat} (hk : k < 8) (q : Int32) (hv : iS q = false) : px_E L xs mX3_needs [.ref 40, .int (cI k), .int q] σ (some (.int (-2))) σ := by
  show px_W L xs mX3_needs (0, [some (.ref 40), some (.int (cI k)), some (.int q), none], []) (sh0, σ) _
  refine px_W.run 1 (f' := (1, [some (.ref 40), some (.int (cI k)), some (.int q), none], [.int (cI k)])) (h' := (sh0, σ)) rfl ?_
  refine px_W.cE (as := [.int (cI k)]) (st := []) (v := some (.int (bo (iB (cI k) 0 7)))) (σ' := σ) rfl rfl rfl (t_isOne σ (cI k)) ?_
  refine px_W.if_ne rfl (fun c1 => absurd c1 (by rw [i8_iB, i8_k k hk]; decide)) (fun c1 => ?_)
  refine px_W.run 3 (f' := (14, [some (.ref 40), some (.int (cI k)), some (.int q), none], [.int 255, .int 0, .int q])) (h' := (sh0, σ)) rfl ?_
  refine px_W.cE (as := [.int q, .int 0, .int 255]) (st := []) (v := some (.int (bo (iB q 0 255)))) (σ' := σ) rfl rfl rfl (t_in σ q 0 255) ?_
  refine px_W.if_ne rfl (fun c2 => ?_) (fun c2 => absurd (by rw [iS_iB, hv]; decide) c2)
  refine px_W.run 1 (f' := (22, [some (.ref 40), some (.int (cI k)), some (.int q), none], [.int ((-2))])) (h' := (sh0, σ)) rfl ?_
  exact px_W.iret rfl rfl ⟨rfl, rfl⟩
def sM_needs (σ : px_Sg) (k : Nat) (q : Int32) : px_Sg := (px_up (px_up σ 45 (upd (σ 45) k q)) 40 (upd (σ 40) 5 ((σ 40 5) &&& ((1 <<< ((cI k) &&& 31)) ^^^ (-1)))))
theorem tM_needs {L : Nat} {xs : Nat → Int32} (σ : px_Sg) {k : Nat} (hk : k < 8) (q : Int32) (hv : iS q = true) : px_E L xs mX3_needs [.ref 40, .int (cI k), .int q] σ (some (.int (σ 45 k))) (sM_needs σ k q) := by
  show px_W L xs mX3_needs (0, [some (.ref 40), some (.int (cI k)), some (.int q), none], []) (sh0, σ) _
  refine px_W.run 1 (f' := (1, [some (.ref 40), some (.int (cI k)), some (.int q), none], [.int (cI k)])) (h' := (sh0, σ)) rfl ?_
  refine px_W.cE (as := [.int (cI k)]) (st := []) (v := some (.int (bo (iB (cI k) 0 7)))) (σ' := σ) rfl rfl rfl (t_isOne σ (cI k)) ?_
  refine px_W.if_ne rfl (fun c1 => absurd c1 (by rw [i8_iB, i8_k k hk]; decide)) (fun c1 => ?_)
  refine px_W.run 3 (f' := (14, [some (.ref 40), some (.int (cI k)), some (.int q), none], [.int 255, .int 0, .int q])) (h' := (sh0, σ)) rfl ?_
  refine px_W.cE (as := [.int q, .int 0, .int 255]) (st := []) (v := some (.int (bo (iB q 0 255)))) (σ' := σ) rfl rfl rfl (t_in σ q 0 255) ?_
  refine px_W.if_ne rfl (fun c2 => absurd c2 (by rw [iS_iB, hv]; decide)) (fun c2 => ?_)
  refine px_W.run 3 (f' := (28, [some (.ref 40), some (.int (cI k)), some (.int q), none], [.int (cI k), .ref 45])) (h' := (sh0, σ)) rfl ?_
  refine px_W.iald rfl rfl (i := k) (cI_n _) (hk) (by decide) ?_
  refine px_W.run 5 (f' := (36, [some (.ref 40), some (.int (cI k)), some (.int q), some (.int (σ 45 k))], [.int q, .int (cI k), .ref 45])) (h' := (sh0, σ)) rfl ?_
  refine px_W.iast rfl rfl (i := k) (cI_n _) (hk) (by decide) ?_
  refine px_W.run 9 (f' := (48, [some (.ref 40), some (.int (cI k)), some (.int q), some (.int (σ 45 k))], [.int ((σ 40 5) &&& ((1 <<< ((cI k) &&& 31)) ^^^ (-1))), .ref 40])) (h' := (sh0, (px_up σ 45 (upd (σ 45) k q)))) rfl ?_
  refine px_W.puti rfl rfl ?_
  refine px_W.run 1 (f' := (52, [some (.ref 40), some (.int (cI k)), some (.int q), some (.int (σ 45 k))], [.int (σ 45 k)])) (h' := (sh0, (px_up (px_up σ 45 (upd (σ 45) k q)) 40 (upd (σ 40) 5 ((σ 40 5) &&& ((1 <<< ((cI k) &&& 31)) ^^^ (-1))))))) rfl ?_
  exact px_W.iret rfl rfl ⟨rfl, rfl⟩
theorem tX_say0 {L : Nat} {xs : Nat → Int32} (σ : px_Sg) (q : Int32) (hv : iB q 33 126 = false) : px_E L xs mX2_say [.ref 0, .int q] σ (some (.int (-2))) σ := by
  show px_W L xs mX2_say (0, [some (.ref 0), some (.int q)], []) (sh0, σ) _
  refine px_W.run 2 (f' := (3, [some (.ref 0), some (.int q)], [.int 33, .int q])) (h' := (sh0, σ)) rfl ?_
  refine px_W.icmp_lt rfl (fun c1 => ?_) (fun c1 => ?_)
  · refine px_W.run 1 (f' := (14, [some (.ref 0), some (.int q)], [.int ((-2))])) (h' := (sh0, σ)) rfl ?_
    exact px_W.iret rfl rfl ⟨rfl, rfl⟩
  · refine px_W.run 2 (f' := (9, [some (.ref 0), some (.int q)], [.int 126, .int q])) (h' := (sh0, σ)) rfl ?_
    refine px_W.icmp_le rfl (fun c2 => ?_) (fun c2 => ?_)
    · exact absurd (iB_in (by assumption) (by assumption)) (by rw [hv]; decide)
    · refine px_W.run 1 (f' := (14, [some (.ref 0), some (.int q)], [.int ((-2))])) (h' := (sh0, σ)) rfl ?_
      exact px_W.iret rfl rfl ⟨rfl, rfl⟩
theorem iB_lo {x lo hi : Int32} (h : iB x lo hi = true) : ¬ x < lo ∧ x ≤ hi := by
  unfold iB at h
  simp only [Bool.and_eq_true, Bool.not_eq_true', decide_eq_false_iff_not] at h
  exact ⟨h.1, Int32.not_lt.mp h.2⟩
theorem tX_say1 {L : Nat} {xs : Nat → Int32} (σ : px_Sg) (q : Int32) (hv : iB q 33 126 = true) (hn : σ 37 1 = nI 60) : px_E L xs mX2_say [.ref 0, .int q] σ (some (.int (-4))) σ := by
  show px_W L xs mX2_say (0, [some (.ref 0), some (.int q)], []) (sh0, σ) _
  refine px_W.run 2 (f' := (3, [some (.ref 0), some (.int q)], [.int 33, .int q])) (h' := (sh0, σ)) rfl ?_
  refine px_W.icmp_lt rfl (fun c1 => absurd c1 ((iB_lo hv).1)) (fun c1 => ?_)
  refine px_W.run 2 (f' := (9, [some (.ref 0), some (.int q)], [.int 126, .int q])) (h' := (sh0, σ)) rfl ?_
  refine px_W.icmp_le rfl (fun c2 => ?_) (fun c2 => absurd ((iB_lo hv).2) c2)
  refine px_W.run 4 (f' := (24, [some (.ref 0), some (.int q)], [.int 60, .int (σ 37 1)])) (h' := (sh0, σ)) rfl ?_
  refine px_W.icmp_lt rfl (fun c3 => absurd c3 (by rw [hn]; decide)) (fun c3 => ?_)
  refine px_W.run 1 (f' := (29, [some (.ref 0), some (.int q)], [.int ((-4))])) (h' := (sh0, σ)) rfl ?_
  exact px_W.iret rfl rfl ⟨rfl, rfl⟩
theorem tX_say {L : Nat} {xs : Nat → Int32} (σ : px_Sg) (q : Int32) (hv : iB q 33 126 = true) {n : Nat} (hn : σ 37 1 = nI n) (h60 : n < 60) : px_E L xs mX2_say [.ref 0, .int q] σ (some (.int (s_write σ q n 37 1))) (s_write σ q n) := by
  show px_W L xs mX2_say (0, [some (.ref 0), some (.int q)], []) (sh0, σ) _
  refine px_W.run 2 (f' := (3, [some (.ref 0), some (.int q)], [.int 33, .int q])) (h' := (sh0, σ)) rfl ?_
  refine px_W.icmp_lt rfl (fun c1 => absurd c1 ((iB_lo hv).1)) (fun c1 => ?_)
  refine px_W.run 2 (f' := (9, [some (.ref 0), some (.int q)], [.int 126, .int q])) (h' := (sh0, σ)) rfl ?_
  refine px_W.icmp_le rfl (fun c2 => ?_) (fun c2 => absurd ((iB_lo hv).2) c2)
  refine px_W.run 4 (f' := (24, [some (.ref 0), some (.int q)], [.int 60, .int (σ 37 1)])) (h' := (sh0, σ)) rfl ?_
  refine px_W.icmp_lt rfl (fun c3 => ?_) (fun c3 => absurd (by rw [hn]; exact nI_lt (b := 60) h60 (by decide)) c3)
  refine px_W.run 3 (f' := (35, [some (.ref 0), some (.int q)], [.int q, .ref 37])) (h' := (sh0, σ)) rfl ?_
  refine px_W.cE (as := [.ref 37, .int q]) (st := []) (v := none) (σ' := (s_write σ q n)) rfl rfl rfl (t_write σ q hn h60) ?_
  refine px_W.run 3 (f' := (45, [some (.ref 0), some (.int q)], [.int (((s_write σ q n) 37) 1)])) (h' := (sh0, (s_write σ q n))) rfl ?_
  exact px_W.iret rfl rfl ⟨rfl, rfl⟩
theorem tM_say0 {L : Nat} {xs : Nat → Int32} (σ : px_Sg) (q : Int32) (hv : iB q 33 126 = false) : px_E L xs mX3_say [.ref 40, .int q] σ (some (.int (-2))) σ := by
  show px_W L xs mX3_say (0, [some (.ref 40), some (.int q)], []) (sh0, σ) _
  refine px_W.run 3 (f' := (5, [some (.ref 40), some (.int q)], [.int 126, .int 33, .int q])) (h' := (sh0, σ)) rfl ?_
  refine px_W.cE (as := [.int q, .int 33, .int 126]) (st := []) (v := some (.int (bo (iB q 33 126)))) (σ' := σ) rfl rfl rfl (t_in σ q 33 126) ?_
  refine px_W.if_ne rfl (fun c1 => ?_) (fun c1 => absurd (by rw [hv]; decide) c1)
  refine px_W.run 1 (f' := (13, [some (.ref 40), some (.int q)], [.int ((-2))])) (h' := (sh0, σ)) rfl ?_
  exact px_W.iret rfl rfl ⟨rfl, rfl⟩
theorem tM_say1 {L : Nat} {xs : Nat → Int32} (σ : px_Sg) (q : Int32) (hv : iB q 33 126 = true) (hn : σ 40 10 = nI 60) : px_E L xs mX3_say [.ref 40, .int q] σ (some (.int (-4))) σ := by
  show px_W L xs mX3_say (0, [some (.ref 40), some (.int q)], []) (sh0, σ) _
  refine px_W.run 3 (f' := (5, [some (.ref 40), some (.int q)], [.int 126, .int 33, .int q])) (h' := (sh0, σ)) rfl ?_
  refine px_W.cE (as := [.int q, .int 33, .int 126]) (st := []) (v := some (.int (bo (iB q 33 126)))) (σ' := σ) rfl rfl rfl (t_in σ q 33 126) ?_
  refine px_W.if_ne rfl (fun c1 => absurd c1 (by rw [hv]; decide)) (fun c1 => ?_)
  refine px_W.run 3 (f' := (20, [some (.ref 40), some (.int q)], [.int 60, .int (σ 40 10)])) (h' := (sh0, σ)) rfl ?_
  refine px_W.icmp_ne rfl (fun c2 => ?_) (fun c2 => absurd (hn) c2)
  refine px_W.run 1 (f' := (25, [some (.ref 40), some (.int q)], [.int ((-4))])) (h' := (sh0, σ)) rfl ?_
  exact px_W.iret rfl rfl ⟨rfl, rfl⟩
def sM_say (σ : px_Sg) (q : Int32) (n : Nat) : px_Sg := (px_up (px_up σ 48 (upd (σ 48) n q)) 40 (upd (σ 40) 10 ((σ 40 10) + 1)))
theorem tM_say {L : Nat} {xs : Nat → Int32} (σ : px_Sg) (q : Int32) (hv : iB q 33 126 = true) {n : Nat} (hn : σ 40 10 = nI n) (h60 : n < 60) : px_E L xs mX3_say [.ref 40, .int q] σ (some (.int (σ 40 10 + 1))) (sM_say σ q n) := by
  show px_W L xs mX3_say (0, [some (.ref 40), some (.int q)], []) (sh0, σ) _
  refine px_W.run 3 (f' := (5, [some (.ref 40), some (.int q)], [.int 126, .int 33, .int q])) (h' := (sh0, σ)) rfl ?_
  refine px_W.cE (as := [.int q, .int 33, .int 126]) (st := []) (v := some (.int (bo (iB q 33 126)))) (σ' := σ) rfl rfl rfl (t_in σ q 33 126) ?_
  refine px_W.if_ne rfl (fun c1 => absurd c1 (by rw [hv]; decide)) (fun c1 => ?_)
  refine px_W.run 3 (f' := (20, [some (.ref 40), some (.int q)], [.int 60, .int (σ 40 10)])) (h' := (sh0, σ)) rfl ?_
  refine px_W.icmp_ne rfl (fun c2 => absurd c2 (by rw [hn]; exact fun z => absurd ((nI_eq (b := 60) (by omega) (by decide)).mp z) (by omega))) (fun c2 => ?_)
  refine px_W.run 5 (f' := (35, [some (.ref 40), some (.int q)], [.int q, .int (σ 40 10), .ref 48])) (h' := (sh0, σ)) rfl ?_
  refine px_W.iast rfl rfl (i := n) (hn) (h60) (by decide) ?_
  refine px_W.run 5 (f' := (43, [some (.ref 40), some (.int q)], [.int ((σ 40 10) + 1), .ref 40])) (h' := (sh0, (px_up σ 48 (upd (σ 48) n q)))) rfl ?_
  refine px_W.puti rfl rfl ?_
  refine px_W.run 2 (f' := (50, [some (.ref 40), some (.int q)], [.int ((σ 40 10) + 1)])) (h' := (sh0, (px_up (px_up σ 48 (upd (σ 48) n q)) 40 (upd (σ 40) 10 ((σ 40 10) + 1))))) rfl ?_
  exact px_W.iret rfl rfl ⟨rfl, rfl⟩
theorem tX_send0 {L : Nat} {xs : Nat → Int32} (σ : px_Sg) (p : Int32) (h : i4 p = false) : px_E L xs mX2_send [.ref 0, .int p] σ (some (.int (-1))) σ := by
  show px_W L xs mX2_send (0, [some (.ref 0), some (.int p), none], []) (sh0, σ) _
  refine px_W.run 1 (f' := (1, [some (.ref 0), some (.int p), none], [.int p])) (h' := (sh0, σ)) rfl ?_
  refine px_W.cE (as := [.int p]) (st := []) (v := some (.int (bo (i4 p)))) (σ' := σ) rfl rfl rfl (tX_isColony σ p) ?_
  refine px_W.if_ne rfl (fun c1 => ?_) (fun c1 => absurd (by rw [h]; decide) c1)
  refine px_W.run 1 (f' := (8, [some (.ref 0), some (.int p), none], [.int ((-1))])) (h' := (sh0, σ)) rfl ?_
  exact px_W.iret rfl rfl ⟨rfl, rfl⟩
theorem tX_send {L : Nat} {xs : Nat → Int32} (σ : px_Sg) {k : Nat} (hk : k < 4) : px_E L xs mX2_send [.ref 0, .int (cI k)] σ (some (.int (pS (σ 4) (dS (σ 2) (σ 5))))) (px_up σ 9 (upd (σ 9) k (pS (σ 4) (dS (σ 2) (σ 5))))) := by
  show px_W L xs mX2_send (0, [some (.ref 0), some (.int (cI k)), none], []) (sh0, σ) _
  refine px_W.run 1 (f' := (1, [some (.ref 0), some (.int (cI k)), none], [.int (cI k)])) (h' := (sh0, σ)) rfl ?_
  refine px_W.cE (as := [.int (cI k)]) (st := []) (v := some (.int (bo (i4 (cI k))))) (σ' := σ) rfl rfl rfl (tX_isColony σ (cI k)) ?_
  refine px_W.if_ne rfl (fun c1 => absurd c1 (by rw [i4_k k hk]; decide)) (fun c1 => ?_)
  refine px_W.run 4 (f' := (17, [some (.ref 0), some (.int (cI k)), none], [.ref 1, .ref 1])) (h' := (sh0, σ)) rfl ?_
  refine px_W.cE (as := [.ref 1]) (st := [.ref 1]) (v := some (.int (dS (σ 2) (σ 5)))) (σ' := σ) rfl rfl rfl (t1_doneParts σ) ?_
  refine px_W.cE (as := [.ref 1, .int (dS (σ 2) (σ 5))]) (st := []) (v := some (.int (pS (σ 4) (dS (σ 2) (σ 5))))) (σ' := σ) rfl rfl rfl (t1_powersOf σ (dS (σ 2) (σ 5))) ?_
  refine px_W.run 6 (f' := (33, [some (.ref 0), some (.int (cI k)), some (.int (pS (σ 4) (dS (σ 2) (σ 5))))], [.int (pS (σ 4) (dS (σ 2) (σ 5))), .int (cI k), .ref 9])) (h' := (sh0, σ)) rfl ?_
  refine px_W.iast rfl rfl (i := k) (cI_n _) (hk) (by decide) ?_
  refine px_W.run 1 (f' := (35, [some (.ref 0), some (.int (cI k)), some (.int (pS (σ 4) (dS (σ 2) (σ 5))))], [.int (pS (σ 4) (dS (σ 2) (σ 5)))])) (h' := (sh0, (px_up σ 9 (upd (σ 9) k (pS (σ 4) (dS (σ 2) (σ 5))))))) rfl ?_
  exact px_W.iret rfl rfl ⟨rfl, rfl⟩
theorem tM_send0 {L : Nat} {xs : Nat → Int32} (σ : px_Sg) (p : Int32) (h : i4 p = false) : px_E L xs mX3_send [.ref 40, .int p] σ (some (.int (-1))) σ := by
  show px_W L xs mX3_send (0, [some (.ref 40), some (.int p)], []) (sh0, σ) _
  refine px_W.run 1 (f' := (1, [some (.ref 40), some (.int p)], [.int p])) (h' := (sh0, σ)) rfl ?_
  refine px_W.cE (as := [.int p]) (st := []) (v := some (.int (bo (iB p 0 3)))) (σ' := σ) rfl rfl rfl (t_isColony σ p) ?_
  refine px_W.if_ne rfl (fun c1 => ?_) (fun c1 => absurd (by rw [i4_iB, h]; decide) c1)
  refine px_W.run 1 (f' := (8, [some (.ref 40), some (.int p)], [.int ((-1))])) (h' := (sh0, σ)) rfl ?_
  exact px_W.iret rfl rfl ⟨rfl, rfl⟩
theorem tM_send {L : Nat} {xs : Nat → Int32} (σ : px_Sg) {k : Nat} (hk : k < 4) : px_E L xs mX3_send [.ref 40, .int (cI k)] σ (some (.int (pS ((s_asNow σ) 43) (dS ((s_asNow σ) 41) ((s_asNow σ) 49))))) (px_up (s_asNow σ) 46 (upd ((s_asNow σ) 46) k (pS ((s_asNow σ) 43) (dS ((s_asNow σ) 41) ((s_asNow σ) 49))))) := by
  show px_W L xs mX3_send (0, [some (.ref 40), some (.int (cI k))], []) (sh0, σ) _
  refine px_W.run 1 (f' := (1, [some (.ref 40), some (.int (cI k))], [.int (cI k)])) (h' := (sh0, σ)) rfl ?_
  refine px_W.cE (as := [.int (cI k)]) (st := []) (v := some (.int (bo (iB (cI k) 0 3)))) (σ' := σ) rfl rfl rfl (t_isColony σ (cI k)) ?_
  refine px_W.if_ne rfl (fun c1 => absurd c1 (by rw [i4_iB, i4_k k hk]; decide)) (fun c1 => ?_)
  refine px_W.run 1 (f' := (10, [some (.ref 40), some (.int (cI k))], [.ref 40])) (h' := (sh0, σ)) rfl ?_
  refine px_W.cE (as := [.ref 40]) (st := []) (v := none) (σ' := (s_asNow σ)) rfl rfl rfl (t_asNow σ) ?_
  refine px_W.run 5 (f' := (20, [some (.ref 40), some (.int (cI k))], [.ref 40, .ref 40, .int (cI k), .ref 46])) (h' := (sh0, (s_asNow σ))) rfl ?_
  refine px_W.cE (as := [.ref 40]) (st := [.ref 40, .int (cI k), .ref 46]) (v := some (.int (dS ((s_asNow σ) 41) ((s_asNow σ) 49)))) (σ' := (s_asNow σ)) rfl rfl rfl (t_doneNow (s_asNow σ)) ?_
  refine px_W.cE (as := [.ref 40, .int (dS ((s_asNow σ) 41) ((s_asNow σ) 49))]) (st := [.int (cI k), .ref 46]) (v := some (.int (pS ((s_asNow σ) 43) (dS ((s_asNow σ) 41) ((s_asNow σ) 49))))) (σ' := (s_asNow σ)) rfl rfl rfl (t_powers (s_asNow σ) (dS ((s_asNow σ) 41) ((s_asNow σ) 49))) ?_
  refine px_W.iast rfl rfl (i := k) (cI_n _) (hk) (by decide) ?_
  refine px_W.run 3 (f' := (32, [some (.ref 40), some (.int (cI k))], [.int (cI k), .ref 46])) (h' := (sh0, (px_up (s_asNow σ) 46 (upd ((s_asNow σ) 46) k (pS ((s_asNow σ) 43) (dS ((s_asNow σ) 41) ((s_asNow σ) 49))))))) rfl ?_
  refine px_W.iald rfl rfl (i := k) (cI_n _) (hk) (by decide) ?_
  exact px_W.iret rfl rfl ⟨by simp [px_up, upd], rfl⟩
theorem tX_falls0 {L : Nat} {xs : Nat → Int32} (σ : px_Sg) (p : Int32) (h : i8 p = false) (q : Int32) : px_E L xs mX2_falls [.ref 0, .int p, .int q] σ (some (.int (-1))) σ := by
  show px_W L xs mX2_falls (0, [some (.ref 0), some (.int p), some (.int q), none, none], []) (sh0, σ) _
  refine px_W.run 1 (f' := (1, [some (.ref 0), some (.int p), some (.int q), none, none], [.int p])) (h' := (sh0, σ)) rfl ?_
  refine px_W.cE (as := [.int p]) (st := []) (v := some (.int (bo (i8 p)))) (σ' := σ) rfl rfl rfl (t_isOfEight σ p) ?_
  refine px_W.if_ne rfl (fun c1 => ?_) (fun c1 => absurd (by rw [h]; decide) c1)
  refine px_W.run 1 (f' := (8, [some (.ref 0), some (.int p), some (.int q), none, none], [.int ((-1))])) (h' := (sh0, σ)) rfl ?_
  exact px_W.iret rfl rfl ⟨rfl, rfl⟩
theorem tX_falls1 {L : Nat} {xs : Nat → Int32} (σ : px_Sg) {k : Nat} (hk : k < 8) (q : Int32) (hv : i2 q = false) : px_E L xs mX2_falls [.ref 0, .int (cI k), .int q] σ (some (.int (-2))) σ := by
  show px_W L xs mX2_falls (0, [some (.ref 0), some (.int (cI k)), some (.int q), none, none], []) (sh0, σ) _
  refine px_W.run 1 (f' := (1, [some (.ref 0), some (.int (cI k)), some (.int q), none, none], [.int (cI k)])) (h' := (sh0, σ)) rfl ?_
  refine px_W.cE (as := [.int (cI k)]) (st := []) (v := some (.int (bo (i8 (cI k))))) (σ' := σ) rfl rfl rfl (t_isOfEight σ (cI k)) ?_
  refine px_W.if_ne rfl (fun c1 => absurd c1 (by rw [i8_k k hk]; decide)) (fun c1 => ?_)
  refine px_W.run 1 (f' := (10, [some (.ref 0), some (.int (cI k)), some (.int q), none, none], [.int q])) (h' := (sh0, σ)) rfl ?_
  refine px_W.cE (as := [.int q]) (st := []) (v := some (.int (bo (i2 q)))) (σ' := σ) rfl rfl rfl (t_isEitherOne σ q) ?_
  refine px_W.if_ne rfl (fun c2 => ?_) (fun c2 => absurd (by rw [hv]; decide) c2)
  refine px_W.run 1 (f' := (18, [some (.ref 0), some (.int (cI k)), some (.int q), none, none], [.int ((-2))])) (h' := (sh0, σ)) rfl ?_
  exact px_W.iret rfl rfl ⟨rfl, rfl⟩
theorem tM_falls0 {L : Nat} {xs : Nat → Int32} (σ : px_Sg) (p : Int32) (h : i8 p = false) (q : Int32) : px_E L xs mX3_falls [.ref 40, .int p, .int q] σ (some (.int (-1))) σ := by
  show px_W L xs mX3_falls (0, [some (.ref 40), some (.int p), some (.int q), none], []) (sh0, σ) _
  refine px_W.run 1 (f' := (1, [some (.ref 40), some (.int p), some (.int q), none], [.int p])) (h' := (sh0, σ)) rfl ?_
  refine px_W.cE (as := [.int p]) (st := []) (v := some (.int (bo (iB p 0 7)))) (σ' := σ) rfl rfl rfl (t_isOne σ p) ?_
  refine px_W.if_ne rfl (fun c1 => ?_) (fun c1 => absurd (by rw [i8_iB, h]; decide) c1)
  refine px_W.run 1 (f' := (8, [some (.ref 40), some (.int p), some (.int q), none], [.int ((-1))])) (h' := (sh0, σ)) rfl ?_
  exact px_W.iret rfl rfl ⟨rfl, rfl⟩
theorem tM_falls1 {L : Nat} {xs : Nat → Int32} (σ : px_Sg) {k : Nat} (hk : k < 8) (q : Int32) (hv : i2 q = false) : px_E L xs mX3_falls [.ref 40, .int (cI k), .int q] σ (some (.int (-2))) σ := by
  show px_W L xs mX3_falls (0, [some (.ref 40), some (.int (cI k)), some (.int q), none], []) (sh0, σ) _
  refine px_W.run 1 (f' := (1, [some (.ref 40), some (.int (cI k)), some (.int q), none], [.int (cI k)])) (h' := (sh0, σ)) rfl ?_
  refine px_W.cE (as := [.int (cI k)]) (st := []) (v := some (.int (bo (iB (cI k) 0 7)))) (σ' := σ) rfl rfl rfl (t_isOne σ (cI k)) ?_
  refine px_W.if_ne rfl (fun c1 => absurd c1 (by rw [i8_iB, i8_k k hk]; decide)) (fun c1 => ?_)
  refine px_W.run 3 (f' := (12, [some (.ref 40), some (.int (cI k)), some (.int q), none], [.int 1, .int 0, .int q])) (h' := (sh0, σ)) rfl ?_
  refine px_W.cE (as := [.int q, .int 0, .int 1]) (st := []) (v := some (.int (bo (iB q 0 1)))) (σ' := σ) rfl rfl rfl (t_in σ q 0 1) ?_
  refine px_W.if_ne rfl (fun c2 => ?_) (fun c2 => absurd (by rw [i2_iB, hv]; decide) c2)
  refine px_W.run 1 (f' := (20, [some (.ref 40), some (.int (cI k)), some (.int q), none], [.int ((-2))])) (h' := (sh0, σ)) rfl ?_
  exact px_W.iret rfl rfl ⟨rfl, rfl⟩
theorem tX_falls_0 {L : Nat} {xs : Nat → Int32} (σ : px_Sg) {k : Nat} (hk : k < 8) : px_E L xs mX2_falls [.ref 0, .int (cI k), .int 0] σ (some (.int ((abS (σ 3) (on k) &&& bS (σ 5))))) σ := by
  show px_W L xs mX2_falls (0, [some (.ref 0), some (.int (cI k)), some (.int 0), none, none], []) (sh0, σ) _
  refine px_W.run 1 (f' := (1, [some (.ref 0), some (.int (cI k)), some (.int 0), none, none], [.int (cI k)])) (h' := (sh0, σ)) rfl ?_
  refine px_W.cE (as := [.int (cI k)]) (st := []) (v := some (.int (bo (i8 (cI k))))) (σ' := σ) rfl rfl rfl (t_isOfEight σ (cI k)) ?_
  refine px_W.if_ne rfl (fun c1 => absurd c1 (by rw [i8_k k hk]; decide)) (fun c1 => ?_)
  refine px_W.run 1 (f' := (10, [some (.ref 0), some (.int (cI k)), some (.int 0), none, none], [.int 0])) (h' := (sh0, σ)) rfl ?_
  refine px_W.cE (as := [.int 0]) (st := []) (v := some (.int (bo (i2 0)))) (σ' := σ) rfl rfl rfl (t_isEitherOne σ 0) ?_
  refine px_W.if_ne rfl (fun c2 => absurd c2 (by decide)) (fun c2 => ?_)
  refine px_W.run 3 (f' := (24, [some (.ref 0), some (.int (cI k)), some (.int 0), none, none], [.int (cI k), .ref 1])) (h' := (sh0, σ)) rfl ?_
  refine px_W.cE (as := [.ref 1, .int (cI k)]) (st := []) (v := some (.int (abS (σ 3) (on k)))) (σ' := σ) rfl rfl rfl (t1_withAllAbove σ) ?_
  refine px_W.run 2 (f' := (31, [some (.ref 0), some (.int (cI k)), some (.int 0), none, none], [.ref 1, .int (abS (σ 3) (on k))])) (h' := (sh0, σ)) rfl ?_
  refine px_W.cE (as := [.ref 1]) (st := [.int (abS (σ 3) (on k))]) (v := some (.int (bS (σ 5)))) (σ' := σ) rfl rfl rfl (t1_paintedParts σ) ?_
  refine px_W.run 3 (f' := (37, [some (.ref 0), some (.int (cI k)), some (.int 0), some (.int ((abS (σ 3) (on k)) &&& (bS (σ 5)))), none], [.int 0])) (h' := (sh0, σ)) rfl ?_
  refine px_W.if_ne rfl (fun c3 => ?_) (fun c3 => absurd (by decide) c3)
  refine px_W.run 1 (f' := (41, [some (.ref 0), some (.int (cI k)), some (.int 0), some (.int ((abS (σ 3) (on k)) &&& (bS (σ 5)))), none], [.int ((abS (σ 3) (on k)) &&& (bS (σ 5)))])) (h' := (sh0, σ)) rfl ?_
  exact px_W.iret rfl rfl ⟨rfl, rfl⟩
theorem tX_falls_1 {L : Nat} {xs : Nat → Int32} (σ : px_Sg) {k : Nat} (hk : k < 8) : px_E L xs mX2_falls [.ref 0, .int (cI k), .int 1] σ (some (.int (pS (σ 4) (dS (σ 2) (σ 5)) &&& (pS (σ 4) (dS (σ 2) (σ 5) &&& ((abS (σ 3) (on k) &&& bS (σ 5)) ^^^ -1)) ^^^ -1)))) σ := by
  show px_W L xs mX2_falls (0, [some (.ref 0), some (.int (cI k)), some (.int 1), none, none], []) (sh0, σ) _
  refine px_W.run 1 (f' := (1, [some (.ref 0), some (.int (cI k)), some (.int 1), none, none], [.int (cI k)])) (h' := (sh0, σ)) rfl ?_
  refine px_W.cE (as := [.int (cI k)]) (st := []) (v := some (.int (bo (i8 (cI k))))) (σ' := σ) rfl rfl rfl (t_isOfEight σ (cI k)) ?_
  refine px_W.if_ne rfl (fun c1 => absurd c1 (by rw [i8_k k hk]; decide)) (fun c1 => ?_)
  refine px_W.run 1 (f' := (10, [some (.ref 0), some (.int (cI k)), some (.int 1), none, none], [.int 1])) (h' := (sh0, σ)) rfl ?_
  refine px_W.cE (as := [.int 1]) (st := []) (v := some (.int (bo (i2 1)))) (σ' := σ) rfl rfl rfl (t_isEitherOne σ 1) ?_
  refine px_W.if_ne rfl (fun c2 => absurd c2 (by decide)) (fun c2 => ?_)
  refine px_W.run 3 (f' := (24, [some (.ref 0), some (.int (cI k)), some (.int 1), none, none], [.int (cI k), .ref 1])) (h' := (sh0, σ)) rfl ?_
  refine px_W.cE (as := [.ref 1, .int (cI k)]) (st := []) (v := some (.int (abS (σ 3) (on k)))) (σ' := σ) rfl rfl rfl (t1_withAllAbove σ) ?_
  refine px_W.run 2 (f' := (31, [some (.ref 0), some (.int (cI k)), some (.int 1), none, none], [.ref 1, .int (abS (σ 3) (on k))])) (h' := (sh0, σ)) rfl ?_
  refine px_W.cE (as := [.ref 1]) (st := [.int (abS (σ 3) (on k))]) (v := some (.int (bS (σ 5)))) (σ' := σ) rfl rfl rfl (t1_paintedParts σ) ?_
  refine px_W.run 3 (f' := (37, [some (.ref 0), some (.int (cI k)), some (.int 1), some (.int ((abS (σ 3) (on k)) &&& (bS (σ 5)))), none], [.int 1])) (h' := (sh0, σ)) rfl ?_
  refine px_W.if_ne rfl (fun c3 => absurd c3 (by decide)) (fun c3 => ?_)
  refine px_W.run 2 (f' := (46, [some (.ref 0), some (.int (cI k)), some (.int 1), some (.int ((abS (σ 3) (on k)) &&& (bS (σ 5)))), none], [.ref 1])) (h' := (sh0, σ)) rfl ?_
  refine px_W.cE (as := [.ref 1]) (st := []) (v := some (.int (dS (σ 2) (σ 5)))) (σ' := σ) rfl rfl rfl (t1_doneParts σ) ?_
  refine px_W.run 4 (f' := (57, [some (.ref 0), some (.int (cI k)), some (.int 1), some (.int ((abS (σ 3) (on k)) &&& (bS (σ 5)))), some (.int (dS (σ 2) (σ 5)))], [.int (dS (σ 2) (σ 5)), .ref 1])) (h' := (sh0, σ)) rfl ?_
  refine px_W.cE (as := [.ref 1, .int (dS (σ 2) (σ 5))]) (st := []) (v := some (.int (pS (σ 4) (dS (σ 2) (σ 5))))) (σ' := σ) rfl rfl rfl (t1_powersOf σ (dS (σ 2) (σ 5))) ?_
  refine px_W.run 7 (f' := (70, [some (.ref 0), some (.int (cI k)), some (.int 1), some (.int ((abS (σ 3) (on k)) &&& (bS (σ 5)))), some (.int (dS (σ 2) (σ 5)))], [.int ((dS (σ 2) (σ 5)) &&& (((abS (σ 3) (on k)) &&& (bS (σ 5))) ^^^ (-1))), .ref 1, .int (pS (σ 4) (dS (σ 2) (σ 5)))])) (h' := (sh0, σ)) rfl ?_
  refine px_W.cE (as := [.ref 1, .int ((dS (σ 2) (σ 5)) &&& (((abS (σ 3) (on k)) &&& (bS (σ 5))) ^^^ (-1)))]) (st := [.int (pS (σ 4) (dS (σ 2) (σ 5)))]) (v := some (.int (pS (σ 4) ((dS (σ 2) (σ 5)) &&& (((abS (σ 3) (on k)) &&& (bS (σ 5))) ^^^ (-1)))))) (σ' := σ) rfl rfl rfl (t1_powersOf σ ((dS (σ 2) (σ 5)) &&& (((abS (σ 3) (on k)) &&& (bS (σ 5))) ^^^ (-1)))) ?_
  refine px_W.run 3 (f' := (76, [some (.ref 0), some (.int (cI k)), some (.int 1), some (.int ((abS (σ 3) (on k)) &&& (bS (σ 5)))), some (.int (dS (σ 2) (σ 5)))], [.int ((pS (σ 4) (dS (σ 2) (σ 5))) &&& ((pS (σ 4) ((dS (σ 2) (σ 5)) &&& (((abS (σ 3) (on k)) &&& (bS (σ 5))) ^^^ (-1)))) ^^^ (-1)))])) (h' := (sh0, σ)) rfl ?_
  exact px_W.iret rfl rfl ⟨rfl, rfl⟩
theorem tM_falls_0 {L : Nat} {xs : Nat → Int32} (σ : px_Sg) {k : Nat} (hk : k < 8) : px_E L xs mX3_falls [.ref 40, .int (cI k), .int 0] σ (some (.int (abS ((s_asNow σ) 42) (on k) &&& bS ((s_asNow σ) 44)))) (s_asNow σ) := by
  show px_W L xs mX3_falls (0, [some (.ref 40), some (.int (cI k)), some (.int 0), none], []) (sh0, σ) _
  refine px_W.run 1 (f' := (1, [some (.ref 40), some (.int (cI k)), some (.int 0), none], [.int (cI k)])) (h' := (sh0, σ)) rfl ?_
  refine px_W.cE (as := [.int (cI k)]) (st := []) (v := some (.int (bo (iB (cI k) 0 7)))) (σ' := σ) rfl rfl rfl (t_isOne σ (cI k)) ?_
  refine px_W.if_ne rfl (fun c1 => absurd c1 (by rw [i8_iB, i8_k k hk]; decide)) (fun c1 => ?_)
  refine px_W.run 3 (f' := (12, [some (.ref 40), some (.int (cI k)), some (.int 0), none], [.int 1, .int 0, .int 0])) (h' := (sh0, σ)) rfl ?_
  refine px_W.cE (as := [.int 0, .int 0, .int 1]) (st := []) (v := some (.int (bo (iB 0 0 1)))) (σ' := σ) rfl rfl rfl (t_in σ 0 0 1) ?_
  refine px_W.if_ne rfl (fun c2 => absurd c2 (by decide)) (fun c2 => ?_)
  refine px_W.run 1 (f' := (22, [some (.ref 40), some (.int (cI k)), some (.int 0), none], [.ref 40])) (h' := (sh0, σ)) rfl ?_
  refine px_W.cE (as := [.ref 40]) (st := []) (v := none) (σ' := (s_asNow σ)) rfl rfl rfl (t_asNow σ) ?_
  refine px_W.run 4 (f' := (29, [some (.ref 40), some (.int (cI k)), some (.int 0), none], [.int (1 <<< ((cI k) &&& 31)), .ref 40])) (h' := (sh0, (s_asNow σ))) rfl ?_
  refine px_W.cE (as := [.ref 40, .int (1 <<< ((cI k) &&& 31))]) (st := []) (v := some (.int (abS ((s_asNow σ) 42) (1 <<< ((cI k) &&& 31))))) (σ' := (s_asNow σ)) rfl rfl rfl (t_above (s_asNow σ) (1 <<< ((cI k) &&& 31))) ?_
  refine px_W.run 2 (f' := (34, [some (.ref 40), some (.int (cI k)), some (.int 0), some (.int (abS ((s_asNow σ) 42) (1 <<< ((cI k) &&& 31))))], [.int 0])) (h' := (sh0, (s_asNow σ))) rfl ?_
  refine px_W.if_ne rfl (fun c3 => ?_) (fun c3 => absurd (by decide) c3)
  refine px_W.run 2 (f' := (39, [some (.ref 40), some (.int (cI k)), some (.int 0), some (.int (abS ((s_asNow σ) 42) (1 <<< ((cI k) &&& 31))))], [.ref 40, .int (abS ((s_asNow σ) 42) (1 <<< ((cI k) &&& 31)))])) (h' := (sh0, (s_asNow σ))) rfl ?_
  refine px_W.cE (as := [.ref 40]) (st := [.int (abS ((s_asNow σ) 42) (1 <<< ((cI k) &&& 31)))]) (v := some (.int (bS ((s_asNow σ) 44)))) (σ' := (s_asNow σ)) rfl rfl rfl (t_begun (s_asNow σ)) ?_
  refine px_W.run 2 (f' := (69, [some (.ref 40), some (.int (cI k)), some (.int 0), some (.int (abS ((s_asNow σ) 42) (1 <<< ((cI k) &&& 31))))], [.int ((abS ((s_asNow σ) 42) (1 <<< ((cI k) &&& 31))) &&& (bS ((s_asNow σ) 44)))])) (h' := (sh0, (s_asNow σ))) rfl ?_
  exact px_W.iret rfl rfl ⟨rfl, rfl⟩
theorem tM_falls_1 {L : Nat} {xs : Nat → Int32} (σ : px_Sg) {k : Nat} (hk : k < 8) : px_E L xs mX3_falls [.ref 40, .int (cI k), .int 1] σ (some (.int (pS ((s_asNow σ) 43) (dS ((s_asNow σ) 41) ((s_asNow σ) 49)) &&& (pS ((s_asNow σ) 43) (dS ((s_asNow σ) 41) ((s_asNow σ) 49) &&& (abS ((s_asNow σ) 42) (on k) ^^^ -1)) ^^^ -1)))) (s_asNow σ) := by
  show px_W L xs mX3_falls (0, [some (.ref 40), some (.int (cI k)), some (.int 1), none], []) (sh0, σ) _
  refine px_W.run 1 (f' := (1, [some (.ref 40), some (.int (cI k)), some (.int 1), none], [.int (cI k)])) (h' := (sh0, σ)) rfl ?_
  refine px_W.cE (as := [.int (cI k)]) (st := []) (v := some (.int (bo (iB (cI k) 0 7)))) (σ' := σ) rfl rfl rfl (t_isOne σ (cI k)) ?_
  refine px_W.if_ne rfl (fun c1 => absurd c1 (by rw [i8_iB, i8_k k hk]; decide)) (fun c1 => ?_)
  refine px_W.run 3 (f' := (12, [some (.ref 40), some (.int (cI k)), some (.int 1), none], [.int 1, .int 0, .int 1])) (h' := (sh0, σ)) rfl ?_
  refine px_W.cE (as := [.int 1, .int 0, .int 1]) (st := []) (v := some (.int (bo (iB 1 0 1)))) (σ' := σ) rfl rfl rfl (t_in σ 1 0 1) ?_
  refine px_W.if_ne rfl (fun c2 => absurd c2 (by decide)) (fun c2 => ?_)
  refine px_W.run 1 (f' := (22, [some (.ref 40), some (.int (cI k)), some (.int 1), none], [.ref 40])) (h' := (sh0, σ)) rfl ?_
  refine px_W.cE (as := [.ref 40]) (st := []) (v := none) (σ' := (s_asNow σ)) rfl rfl rfl (t_asNow σ) ?_
  refine px_W.run 4 (f' := (29, [some (.ref 40), some (.int (cI k)), some (.int 1), none], [.int (1 <<< ((cI k) &&& 31)), .ref 40])) (h' := (sh0, (s_asNow σ))) rfl ?_
  refine px_W.cE (as := [.ref 40, .int (1 <<< ((cI k) &&& 31))]) (st := []) (v := some (.int (abS ((s_asNow σ) 42) (1 <<< ((cI k) &&& 31))))) (σ' := (s_asNow σ)) rfl rfl rfl (t_above (s_asNow σ) (1 <<< ((cI k) &&& 31))) ?_
  refine px_W.run 2 (f' := (34, [some (.ref 40), some (.int (cI k)), some (.int 1), some (.int (abS ((s_asNow σ) 42) (1 <<< ((cI k) &&& 31))))], [.int 1])) (h' := (sh0, (s_asNow σ))) rfl ?_
  refine px_W.if_ne rfl (fun c3 => absurd c3 (by decide)) (fun c3 => ?_)
  refine px_W.run 2 (f' := (48, [some (.ref 40), some (.int (cI k)), some (.int 1), some (.int (abS ((s_asNow σ) 42) (1 <<< ((cI k) &&& 31))))], [.ref 40, .ref 40])) (h' := (sh0, (s_asNow σ))) rfl ?_
  refine px_W.cE (as := [.ref 40]) (st := [.ref 40]) (v := some (.int (dS ((s_asNow σ) 41) ((s_asNow σ) 49)))) (σ' := (s_asNow σ)) rfl rfl rfl (t_doneNow (s_asNow σ)) ?_
  refine px_W.cE (as := [.ref 40, .int (dS ((s_asNow σ) 41) ((s_asNow σ) 49))]) (st := []) (v := some (.int (pS ((s_asNow σ) 43) (dS ((s_asNow σ) 41) ((s_asNow σ) 49))))) (σ' := (s_asNow σ)) rfl rfl rfl (t_powers (s_asNow σ) (dS ((s_asNow σ) 41) ((s_asNow σ) 49))) ?_
  refine px_W.run 2 (f' := (56, [some (.ref 40), some (.int (cI k)), some (.int 1), some (.int (abS ((s_asNow σ) 42) (1 <<< ((cI k) &&& 31))))], [.ref 40, .ref 40, .int (pS ((s_asNow σ) 43) (dS ((s_asNow σ) 41) ((s_asNow σ) 49)))])) (h' := (sh0, (s_asNow σ))) rfl ?_
  refine px_W.cE (as := [.ref 40]) (st := [.ref 40, .int (pS ((s_asNow σ) 43) (dS ((s_asNow σ) 41) ((s_asNow σ) 49)))]) (v := some (.int (dS ((s_asNow σ) 41) ((s_asNow σ) 49)))) (σ' := (s_asNow σ)) rfl rfl rfl (t_doneNow (s_asNow σ)) ?_
  refine px_W.run 4 (f' := (63, [some (.ref 40), some (.int (cI k)), some (.int 1), some (.int (abS ((s_asNow σ) 42) (1 <<< ((cI k) &&& 31))))], [.int ((dS ((s_asNow σ) 41) ((s_asNow σ) 49)) &&& ((abS ((s_asNow σ) 42) (1 <<< ((cI k) &&& 31))) ^^^ (-1))), .ref 40, .int (pS ((s_asNow σ) 43) (dS ((s_asNow σ) 41) ((s_asNow σ) 49)))])) (h' := (sh0, (s_asNow σ))) rfl ?_
  refine px_W.cE (as := [.ref 40, .int ((dS ((s_asNow σ) 41) ((s_asNow σ) 49)) &&& ((abS ((s_asNow σ) 42) (1 <<< ((cI k) &&& 31))) ^^^ (-1)))]) (st := [.int (pS ((s_asNow σ) 43) (dS ((s_asNow σ) 41) ((s_asNow σ) 49)))]) (v := some (.int (pS ((s_asNow σ) 43) ((dS ((s_asNow σ) 41) ((s_asNow σ) 49)) &&& ((abS ((s_asNow σ) 42) (1 <<< ((cI k) &&& 31))) ^^^ (-1)))))) (σ' := (s_asNow σ)) rfl rfl rfl (t_powers (s_asNow σ) ((dS ((s_asNow σ) 41) ((s_asNow σ) 49)) &&& ((abS ((s_asNow σ) 42) (1 <<< ((cI k) &&& 31))) ^^^ (-1)))) ?_
  refine px_W.run 3 (f' := (69, [some (.ref 40), some (.int (cI k)), some (.int 1), some (.int (abS ((s_asNow σ) 42) (1 <<< ((cI k) &&& 31))))], [.int ((pS ((s_asNow σ) 43) (dS ((s_asNow σ) 41) ((s_asNow σ) 49))) &&& ((pS ((s_asNow σ) 43) ((dS ((s_asNow σ) 41) ((s_asNow σ) 49)) &&& ((abS ((s_asNow σ) 42) (1 <<< ((cI k) &&& 31))) ^^^ (-1)))) ^^^ (-1)))])) (h' := (sh0, (s_asNow σ))) rfl ?_
  exact px_W.iret rfl rfl ⟨rfl, rfl⟩
theorem tX_seen0 {L : Nat} {xs : Nat → Int32} (σ : px_Sg) (q p c : Int32) (h : i8 p = false) : px_E L xs mX2_seen [.ref 0, .int q, .int p, .int c] σ (some (.int (-1))) σ := by
  show px_W L xs mX2_seen (0, [some (.ref 0), some (.int q), some (.int p), some (.int c)], []) (sh0, σ) _
  refine px_W.run 1 (f' := (1, [some (.ref 0), some (.int q), some (.int p), some (.int c)], [.int p])) (h' := (sh0, σ)) rfl ?_
  refine px_W.cE (as := [.int p]) (st := []) (v := some (.int (bo (i8 p)))) (σ' := σ) rfl rfl rfl (t_isOfEight σ p) ?_
  refine px_W.if_ne rfl (fun c1 => ?_) (fun c1 => absurd (by rw [h]; decide) c1)
  refine px_W.run 1 (f' := (8, [some (.ref 0), some (.int q), some (.int p), some (.int c)], [.int ((-1))])) (h' := (sh0, σ)) rfl ?_
  exact px_W.iret rfl rfl ⟨rfl, rfl⟩
theorem tM_seen0 {L : Nat} {xs : Nat → Int32} (σ : px_Sg) (q p c : Int32) (h : i8 p = false) : px_E L xs mX3_seen [.ref 40, .int q, .int p, .int c] σ (some (.int (-1))) σ := by
  show px_W L xs mX3_seen (0, [some (.ref 40), some (.int q), some (.int p), some (.int c)], []) (sh0, σ) _
  refine px_W.run 1 (f' := (1, [some (.ref 40), some (.int q), some (.int p), some (.int c)], [.int p])) (h' := (sh0, σ)) rfl ?_
  refine px_W.cE (as := [.int p]) (st := []) (v := some (.int (bo (iB p 0 7)))) (σ' := σ) rfl rfl rfl (t_isOne σ p) ?_
  refine px_W.if_ne rfl (fun c1 => ?_) (fun c1 => absurd (by rw [i8_iB, h]; decide) c1)
  refine px_W.run 1 (f' := (8, [some (.ref 40), some (.int q), some (.int p), some (.int c)], [.int ((-1))])) (h' := (sh0, σ)) rfl ?_
  exact px_W.iret rfl rfl ⟨rfl, rfl⟩
theorem tX_seen1 {L : Nat} {xs : Nat → Int32} (σ : px_Sg) (q : Int32) {k : Nat} (hk : k < 8) (c : Int32) (hv : iB q 0 60 = false) : px_E L xs mX2_seen [.ref 0, .int q, .int (cI k), .int c] σ (some (.int (-2))) σ := by
  show px_W L xs mX2_seen (0, [some (.ref 0), some (.int q), some (.int (cI k)), some (.int c)], []) (sh0, σ) _
  refine px_W.run 1 (f' := (1, [some (.ref 0), some (.int q), some (.int (cI k)), some (.int c)], [.int (cI k)])) (h' := (sh0, σ)) rfl ?_
  refine px_W.cE (as := [.int (cI k)]) (st := []) (v := some (.int (bo (i8 (cI k))))) (σ' := σ) rfl rfl rfl (t_isOfEight σ (cI k)) ?_
  refine px_W.if_ne rfl (fun c1 => absurd c1 (by rw [i8_k k hk]; decide)) (fun c1 => ?_)
  refine px_W.run 1 (f' := (10, [some (.ref 0), some (.int q), some (.int (cI k)), some (.int c)], [.int q])) (h' := (sh0, σ)) rfl ?_
  refine px_W.if_lt rfl (fun c2 => ?_) (fun c2 => ?_)
  · refine px_W.run 1 (f' := (21, [some (.ref 0), some (.int q), some (.int (cI k)), some (.int c)], [.int ((-2))])) (h' := (sh0, σ)) rfl ?_
    exact px_W.iret rfl rfl ⟨rfl, rfl⟩
  · refine px_W.run 2 (f' := (16, [some (.ref 0), some (.int q), some (.int (cI k)), some (.int c)], [.int 60, .int q])) (h' := (sh0, σ)) rfl ?_
    refine px_W.icmp_le rfl (fun c3 => ?_) (fun c3 => ?_)
    · exact absurd (iB_in (by assumption) (by assumption)) (by rw [hv]; decide)
    · refine px_W.run 1 (f' := (21, [some (.ref 0), some (.int q), some (.int (cI k)), some (.int c)], [.int ((-2))])) (h' := (sh0, σ)) rfl ?_
      exact px_W.iret rfl rfl ⟨rfl, rfl⟩
theorem tM_seen1 {L : Nat} {xs : Nat → Int32} (σ : px_Sg) (q : Int32) {k : Nat} (hk : k < 8) (c : Int32) (hv : iB q 0 60 = false) : px_E L xs mX3_seen [.ref 40, .int q, .int (cI k), .int c] σ (some (.int (-2))) σ := by
  show px_W L xs mX3_seen (0, [some (.ref 40), some (.int q), some (.int (cI k)), some (.int c)], []) (sh0, σ) _
  refine px_W.run 1 (f' := (1, [some (.ref 40), some (.int q), some (.int (cI k)), some (.int c)], [.int (cI k)])) (h' := (sh0, σ)) rfl ?_
  refine px_W.cE (as := [.int (cI k)]) (st := []) (v := some (.int (bo (iB (cI k) 0 7)))) (σ' := σ) rfl rfl rfl (t_isOne σ (cI k)) ?_
  refine px_W.if_ne rfl (fun c1 => absurd c1 (by rw [i8_iB, i8_k k hk]; decide)) (fun c1 => ?_)
  refine px_W.run 3 (f' := (13, [some (.ref 40), some (.int q), some (.int (cI k)), some (.int c)], [.int 60, .int 0, .int q])) (h' := (sh0, σ)) rfl ?_
  refine px_W.cE (as := [.int q, .int 0, .int 60]) (st := []) (v := some (.int (bo (iB q 0 60)))) (σ' := σ) rfl rfl rfl (t_in σ q 0 60) ?_
  refine px_W.if_ne rfl (fun c2 => ?_) (fun c2 => absurd (by rw [hv]; decide) c2)
  refine px_W.run 1 (f' := (21, [some (.ref 40), some (.int q), some (.int (cI k)), some (.int c)], [.int ((-2))])) (h' := (sh0, σ)) rfl ?_
  exact px_W.iret rfl rfl ⟨rfl, rfl⟩
theorem tX_seen2 {L : Nat} {xs : Nat → Int32} (σ : px_Sg) (q : Int32) (hv : iB q 0 60 = true) {k : Nat} (hk : k < 8) (c : Int32) (hn : σ 1 10 = nI 8) : px_E L xs mX2_seen [.ref 0, .int q, .int (cI k), .int c] σ (some (.int (-4))) σ := by
  show px_W L xs mX2_seen (0, [some (.ref 0), some (.int q), some (.int (cI k)), some (.int c)], []) (sh0, σ) _
  refine px_W.run 1 (f' := (1, [some (.ref 0), some (.int q), some (.int (cI k)), some (.int c)], [.int (cI k)])) (h' := (sh0, σ)) rfl ?_
  refine px_W.cE (as := [.int (cI k)]) (st := []) (v := some (.int (bo (i8 (cI k))))) (σ' := σ) rfl rfl rfl (t_isOfEight σ (cI k)) ?_
  refine px_W.if_ne rfl (fun c1 => absurd c1 (by rw [i8_k k hk]; decide)) (fun c1 => ?_)
  refine px_W.run 1 (f' := (10, [some (.ref 0), some (.int q), some (.int (cI k)), some (.int c)], [.int q])) (h' := (sh0, σ)) rfl ?_
  refine px_W.if_lt rfl (fun c2 => absurd c2 ((iB_lo hv).1)) (fun c2 => ?_)
  refine px_W.run 2 (f' := (16, [some (.ref 0), some (.int q), some (.int (cI k)), some (.int c)], [.int 60, .int q])) (h' := (sh0, σ)) rfl ?_
  refine px_W.icmp_le rfl (fun c3 => ?_) (fun c3 => absurd ((iB_lo hv).2) c3)
  refine px_W.run 4 (f' := (31, [some (.ref 0), some (.int q), some (.int (cI k)), some (.int c)], [.int 8, .int (σ 1 10)])) (h' := (sh0, σ)) rfl ?_
  refine px_W.icmp_lt rfl (fun c4 => absurd c4 (by rw [hn]; decide)) (fun c4 => ?_)
  refine px_W.run 1 (f' := (36, [some (.ref 0), some (.int q), some (.int (cI k)), some (.int c)], [.int ((-4))])) (h' := (sh0, σ)) rfl ?_
  exact px_W.iret rfl rfl ⟨rfl, rfl⟩
theorem tM_seen2 {L : Nat} {xs : Nat → Int32} (σ : px_Sg) (q : Int32) (hv : iB q 0 60 = true) {k : Nat} (hk : k < 8) (c : Int32) (hn : σ 40 8 = nI 8) : px_E L xs mX3_seen [.ref 40, .int q, .int (cI k), .int c] σ (some (.int (-4))) σ := by
  show px_W L xs mX3_seen (0, [some (.ref 40), some (.int q), some (.int (cI k)), some (.int c)], []) (sh0, σ) _
  refine px_W.run 1 (f' := (1, [some (.ref 40), some (.int q), some (.int (cI k)), some (.int c)], [.int (cI k)])) (h' := (sh0, σ)) rfl ?_
  refine px_W.cE (as := [.int (cI k)]) (st := []) (v := some (.int (bo (iB (cI k) 0 7)))) (σ' := σ) rfl rfl rfl (t_isOne σ (cI k)) ?_
  refine px_W.if_ne rfl (fun c1 => absurd c1 (by rw [i8_iB, i8_k k hk]; decide)) (fun c1 => ?_)
  refine px_W.run 3 (f' := (13, [some (.ref 40), some (.int q), some (.int (cI k)), some (.int c)], [.int 60, .int 0, .int q])) (h' := (sh0, σ)) rfl ?_
  refine px_W.cE (as := [.int q, .int 0, .int 60]) (st := []) (v := some (.int (bo (iB q 0 60)))) (σ' := σ) rfl rfl rfl (t_in σ q 0 60) ?_
  refine px_W.if_ne rfl (fun c2 => absurd c2 (by rw [hv]; decide)) (fun c2 => ?_)
  refine px_W.run 3 (f' := (28, [some (.ref 40), some (.int q), some (.int (cI k)), some (.int c)], [.int 8, .int (σ 40 8)])) (h' := (sh0, σ)) rfl ?_
  refine px_W.icmp_ne rfl (fun c3 => ?_) (fun c3 => absurd (hn) c3)
  refine px_W.run 1 (f' := (33, [some (.ref 40), some (.int q), some (.int (cI k)), some (.int c)], [.int ((-4))])) (h' := (sh0, σ)) rfl ?_
  exact px_W.iret rfl rfl ⟨rfl, rfl⟩
theorem tX_seen_0 {L : Nat} {xs : Nat → Int32} (σ : px_Sg) (q : Int32) (hv : iB q 0 60 = true) {k : Nat} (hk : k < 8) {n : Nat} (hn : σ 1 10 = nI n) (h8 : n < 8) : px_E L xs mX2_seen [.ref 0, .int q, .int (cI k), .int 0] σ (some (.int (s1_addSight0 σ q (cI k) n 1 10))) (s1_addSight0 σ q (cI k) n) := by
  show px_W L xs mX2_seen (0, [some (.ref 0), some (.int q), some (.int (cI k)), some (.int 0)], []) (sh0, σ) _
  refine px_W.run 1 (f' := (1, [some (.ref 0), some (.int q), some (.int (cI k)), some (.int 0)], [.int (cI k)])) (h' := (sh0, σ)) rfl ?_
  refine px_W.cE (as := [.int (cI k)]) (st := []) (v := some (.int (bo (i8 (cI k))))) (σ' := σ) rfl rfl rfl (t_isOfEight σ (cI k)) ?_
  refine px_W.if_ne rfl (fun c1 => absurd c1 (by rw [i8_k k hk]; decide)) (fun c1 => ?_)
  refine px_W.run 1 (f' := (10, [some (.ref 0), some (.int q), some (.int (cI k)), some (.int 0)], [.int q])) (h' := (sh0, σ)) rfl ?_
  refine px_W.if_lt rfl (fun c2 => absurd c2 ((iB_lo hv).1)) (fun c2 => ?_)
  refine px_W.run 2 (f' := (16, [some (.ref 0), some (.int q), some (.int (cI k)), some (.int 0)], [.int 60, .int q])) (h' := (sh0, σ)) rfl ?_
  refine px_W.icmp_le rfl (fun c3 => ?_) (fun c3 => absurd ((iB_lo hv).2) c3)
  refine px_W.run 4 (f' := (31, [some (.ref 0), some (.int q), some (.int (cI k)), some (.int 0)], [.int 8, .int (σ 1 10)])) (h' := (sh0, σ)) rfl ?_
  refine px_W.icmp_lt rfl (fun c4 => ?_) (fun c4 => absurd (by rw [hn]; exact nI_lt (b := 8) h8 (by decide)) c4)
  refine px_W.run 5 (f' := (44, [some (.ref 0), some (.int q), some (.int (cI k)), some (.int 0)], [.int 0, .int (cI k), .int q, .ref 1])) (h' := (sh0, σ)) rfl ?_
  refine px_W.cE (as := [.ref 1, .int q, .int (cI k), .int 0]) (st := []) (v := none) (σ' := (s1_addSight0 σ q (cI k) n)) rfl rfl rfl (t1_addSight0 σ q (cI k) hn h8) ?_
  refine px_W.run 3 (f' := (54, [some (.ref 0), some (.int q), some (.int (cI k)), some (.int 0)], [.int (((s1_addSight0 σ q (cI k) n) 1) 10)])) (h' := (sh0, (s1_addSight0 σ q (cI k) n))) rfl ?_
  exact px_W.iret rfl rfl ⟨rfl, rfl⟩
def sM_seen0 (σ : px_Sg) (q : Int32) (k n : Nat) : px_Sg := (px_up (px_up (px_up (px_up σ 47 (upd (σ 47) (3 * n) q)) 47 (upd (upd (σ 47) (3 * n) q) (3 * n + 1) (cI k))) 47 (upd (upd (upd (σ 47) (3 * n) q) (3 * n + 1) (cI k)) (3 * n + 2) 0)) 40 (upd (σ 40) 8 ((σ 40 8) + 1)))
theorem tM_seen_0 {L : Nat} {xs : Nat → Int32} (σ : px_Sg) (q : Int32) (hv : iB q 0 60 = true) {k : Nat} (hk : k < 8) {n : Nat} (hn : σ 40 8 = nI n) (h8 : n < 8) : px_E L xs mX3_seen [.ref 40, .int q, .int (cI k), .int 0] σ (some (.int (σ 40 8 + 1))) (sM_seen0 σ q k n) := by
  show px_W L xs mX3_seen (0, [some (.ref 40), some (.int q), some (.int (cI k)), some (.int 0)], []) (sh0, σ) _
  refine px_W.run 1 (f' := (1, [some (.ref 40), some (.int q), some (.int (cI k)), some (.int 0)], [.int (cI k)])) (h' := (sh0, σ)) rfl ?_
  refine px_W.cE (as := [.int (cI k)]) (st := []) (v := some (.int (bo (iB (cI k) 0 7)))) (σ' := σ) rfl rfl rfl (t_isOne σ (cI k)) ?_
  refine px_W.if_ne rfl (fun c1 => absurd c1 (by rw [i8_iB, i8_k k hk]; decide)) (fun c1 => ?_)
  refine px_W.run 3 (f' := (13, [some (.ref 40), some (.int q), some (.int (cI k)), some (.int 0)], [.int 60, .int 0, .int q])) (h' := (sh0, σ)) rfl ?_
  refine px_W.cE (as := [.int q, .int 0, .int 60]) (st := []) (v := some (.int (bo (iB q 0 60)))) (σ' := σ) rfl rfl rfl (t_in σ q 0 60) ?_
  refine px_W.if_ne rfl (fun c2 => absurd c2 (by rw [hv]; decide)) (fun c2 => ?_)
  refine px_W.run 3 (f' := (28, [some (.ref 40), some (.int q), some (.int (cI k)), some (.int 0)], [.int 8, .int (σ 40 8)])) (h' := (sh0, σ)) rfl ?_
  refine px_W.icmp_ne rfl (fun c3 => absurd c3 (by rw [hn]; exact fun z => absurd ((nI_eq (b := 8) (by omega) (by decide)).mp z) (by omega))) (fun c3 => ?_)
  refine px_W.run 7 (f' := (45, [some (.ref 40), some (.int q), some (.int (cI k)), some (.int 0)], [.int q, .int (3 * (σ 40 8)), .ref 47])) (h' := (sh0, σ)) rfl ?_
  refine px_W.iast rfl rfl (i := 3 * n) (by simp only [px_up, if_false, if_true, hn]; exact ix3 n) (by omega) (by decide) ?_
  refine px_W.run 9 (f' := (59, [some (.ref 40), some (.int q), some (.int (cI k)), some (.int 0)], [.int (cI k), .int ((3 * (σ 40 8)) + 1), .ref 47])) (h' := (sh0, (px_up σ 47 (upd (σ 47) (3 * n) q)))) rfl ?_
  refine px_W.iast rfl rfl (i := 3 * n + 1) (by simp only [px_up, if_false, if_true, hn]; exact ix3a n) (by omega) (by decide) ?_
  refine px_W.run 9 (f' := (73, [some (.ref 40), some (.int q), some (.int (cI k)), some (.int 0)], [.int 0, .int ((3 * (σ 40 8)) + 2), .ref 47])) (h' := (sh0, (px_up (px_up σ 47 (upd (σ 47) (3 * n) q)) 47 (upd (upd (σ 47) (3 * n) q) (3 * n + 1) (cI k))))) rfl ?_
  refine px_W.if_eq rfl (fun c4 => ?_) (fun c4 => absurd (by decide) c4)
  refine px_W.run 1 (f' := (81, [some (.ref 40), some (.int q), some (.int (cI k)), some (.int 0)], [.int 0, .int ((3 * (σ 40 8)) + 2), .ref 47])) (h' := (sh0, (px_up (px_up σ 47 (upd (σ 47) (3 * n) q)) 47 (upd (upd (σ 47) (3 * n) q) (3 * n + 1) (cI k))))) rfl ?_
  refine px_W.iast rfl rfl (i := 3 * n + 2) (by simp only [px_up, if_false, if_true, hn]; exact ix3b n) (by omega) (by decide) ?_
  refine px_W.run 5 (f' := (89, [some (.ref 40), some (.int q), some (.int (cI k)), some (.int 0)], [.int ((σ 40 8) + 1), .ref 40])) (h' := (sh0, (px_up (px_up (px_up σ 47 (upd (σ 47) (3 * n) q)) 47 (upd (upd (σ 47) (3 * n) q) (3 * n + 1) (cI k))) 47 (upd (upd (upd (σ 47) (3 * n) q) (3 * n + 1) (cI k)) (3 * n + 2) 0)))) rfl ?_
  refine px_W.puti rfl rfl ?_
  refine px_W.run 2 (f' := (96, [some (.ref 40), some (.int q), some (.int (cI k)), some (.int 0)], [.int ((σ 40 8) + 1)])) (h' := (sh0, (px_up (px_up (px_up (px_up σ 47 (upd (σ 47) (3 * n) q)) 47 (upd (upd (σ 47) (3 * n) q) (3 * n + 1) (cI k))) 47 (upd (upd (upd (σ 47) (3 * n) q) (3 * n + 1) (cI k)) (3 * n + 2) 0)) 40 (upd (σ 40) 8 ((σ 40 8) + 1))))) rfl ?_
  exact px_W.iret rfl rfl ⟨rfl, rfl⟩
theorem tX_seen_1 {L : Nat} {xs : Nat → Int32} (σ : px_Sg) (q : Int32) (hv : iB q 0 60 = true) {k : Nat} (hk : k < 8) {n : Nat} (hn : σ 1 10 = nI n) (h8 : n < 8) : px_E L xs mX2_seen [.ref 0, .int q, .int (cI k), .int 1] σ (some (.int (s1_addSight1 σ q (cI k) n 1 10))) (s1_addSight1 σ q (cI k) n) := by
  show px_W L xs mX2_seen (0, [some (.ref 0), some (.int q), some (.int (cI k)), some (.int 1)], []) (sh0, σ) _
  refine px_W.run 1 (f' := (1, [some (.ref 0), some (.int q), some (.int (cI k)), some (.int 1)], [.int (cI k)])) (h' := (sh0, σ)) rfl ?_
  refine px_W.cE (as := [.int (cI k)]) (st := []) (v := some (.int (bo (i8 (cI k))))) (σ' := σ) rfl rfl rfl (t_isOfEight σ (cI k)) ?_
  refine px_W.if_ne rfl (fun c1 => absurd c1 (by rw [i8_k k hk]; decide)) (fun c1 => ?_)
  refine px_W.run 1 (f' := (10, [some (.ref 0), some (.int q), some (.int (cI k)), some (.int 1)], [.int q])) (h' := (sh0, σ)) rfl ?_
  refine px_W.if_lt rfl (fun c2 => absurd c2 ((iB_lo hv).1)) (fun c2 => ?_)
  refine px_W.run 2 (f' := (16, [some (.ref 0), some (.int q), some (.int (cI k)), some (.int 1)], [.int 60, .int q])) (h' := (sh0, σ)) rfl ?_
  refine px_W.icmp_le rfl (fun c3 => ?_) (fun c3 => absurd ((iB_lo hv).2) c3)
  refine px_W.run 4 (f' := (31, [some (.ref 0), some (.int q), some (.int (cI k)), some (.int 1)], [.int 8, .int (σ 1 10)])) (h' := (sh0, σ)) rfl ?_
  refine px_W.icmp_lt rfl (fun c4 => ?_) (fun c4 => absurd (by rw [hn]; exact nI_lt (b := 8) h8 (by decide)) c4)
  refine px_W.run 5 (f' := (44, [some (.ref 0), some (.int q), some (.int (cI k)), some (.int 1)], [.int 1, .int (cI k), .int q, .ref 1])) (h' := (sh0, σ)) rfl ?_
  refine px_W.cE (as := [.ref 1, .int q, .int (cI k), .int 1]) (st := []) (v := none) (σ' := (s1_addSight1 σ q (cI k) n)) rfl rfl rfl (t1_addSight1 σ q (cI k) hn h8) ?_
  refine px_W.run 3 (f' := (54, [some (.ref 0), some (.int q), some (.int (cI k)), some (.int 1)], [.int (((s1_addSight1 σ q (cI k) n) 1) 10)])) (h' := (sh0, (s1_addSight1 σ q (cI k) n))) rfl ?_
  exact px_W.iret rfl rfl ⟨rfl, rfl⟩
def sM_seen1 (σ : px_Sg) (q : Int32) (k n : Nat) : px_Sg := (px_up (px_up (px_up (px_up σ 47 (upd (σ 47) (3 * n) q)) 47 (upd (upd (σ 47) (3 * n) q) (3 * n + 1) (cI k))) 47 (upd (upd (upd (σ 47) (3 * n) q) (3 * n + 1) (cI k)) (3 * n + 2) 1)) 40 (upd (σ 40) 8 ((σ 40 8) + 1)))
theorem tM_seen_1 {L : Nat} {xs : Nat → Int32} (σ : px_Sg) (q : Int32) (hv : iB q 0 60 = true) {k : Nat} (hk : k < 8) {n : Nat} (hn : σ 40 8 = nI n) (h8 : n < 8) : px_E L xs mX3_seen [.ref 40, .int q, .int (cI k), .int 1] σ (some (.int (σ 40 8 + 1))) (sM_seen1 σ q k n) := by
  show px_W L xs mX3_seen (0, [some (.ref 40), some (.int q), some (.int (cI k)), some (.int 1)], []) (sh0, σ) _
  refine px_W.run 1 (f' := (1, [some (.ref 40), some (.int q), some (.int (cI k)), some (.int 1)], [.int (cI k)])) (h' := (sh0, σ)) rfl ?_
  refine px_W.cE (as := [.int (cI k)]) (st := []) (v := some (.int (bo (iB (cI k) 0 7)))) (σ' := σ) rfl rfl rfl (t_isOne σ (cI k)) ?_
  refine px_W.if_ne rfl (fun c1 => absurd c1 (by rw [i8_iB, i8_k k hk]; decide)) (fun c1 => ?_)
  refine px_W.run 3 (f' := (13, [some (.ref 40), some (.int q), some (.int (cI k)), some (.int 1)], [.int 60, .int 0, .int q])) (h' := (sh0, σ)) rfl ?_
  refine px_W.cE (as := [.int q, .int 0, .int 60]) (st := []) (v := some (.int (bo (iB q 0 60)))) (σ' := σ) rfl rfl rfl (t_in σ q 0 60) ?_
  refine px_W.if_ne rfl (fun c2 => absurd c2 (by rw [hv]; decide)) (fun c2 => ?_)
  refine px_W.run 3 (f' := (28, [some (.ref 40), some (.int q), some (.int (cI k)), some (.int 1)], [.int 8, .int (σ 40 8)])) (h' := (sh0, σ)) rfl ?_
  refine px_W.icmp_ne rfl (fun c3 => absurd c3 (by rw [hn]; exact fun z => absurd ((nI_eq (b := 8) (by omega) (by decide)).mp z) (by omega))) (fun c3 => ?_)
  refine px_W.run 7 (f' := (45, [some (.ref 40), some (.int q), some (.int (cI k)), some (.int 1)], [.int q, .int (3 * (σ 40 8)), .ref 47])) (h' := (sh0, σ)) rfl ?_
  refine px_W.iast rfl rfl (i := 3 * n) (by simp only [px_up, if_false, if_true, hn]; exact ix3 n) (by omega) (by decide) ?_
  refine px_W.run 9 (f' := (59, [some (.ref 40), some (.int q), some (.int (cI k)), some (.int 1)], [.int (cI k), .int ((3 * (σ 40 8)) + 1), .ref 47])) (h' := (sh0, (px_up σ 47 (upd (σ 47) (3 * n) q)))) rfl ?_
  refine px_W.iast rfl rfl (i := 3 * n + 1) (by simp only [px_up, if_false, if_true, hn]; exact ix3a n) (by omega) (by decide) ?_
  refine px_W.run 9 (f' := (73, [some (.ref 40), some (.int q), some (.int (cI k)), some (.int 1)], [.int 1, .int ((3 * (σ 40 8)) + 2), .ref 47])) (h' := (sh0, (px_up (px_up σ 47 (upd (σ 47) (3 * n) q)) 47 (upd (upd (σ 47) (3 * n) q) (3 * n + 1) (cI k))))) rfl ?_
  refine px_W.if_eq rfl (fun c4 => absurd c4 (by decide)) (fun c4 => ?_)
  refine px_W.run 2 (f' := (81, [some (.ref 40), some (.int q), some (.int (cI k)), some (.int 1)], [.int 1, .int ((3 * (σ 40 8)) + 2), .ref 47])) (h' := (sh0, (px_up (px_up σ 47 (upd (σ 47) (3 * n) q)) 47 (upd (upd (σ 47) (3 * n) q) (3 * n + 1) (cI k))))) rfl ?_
  refine px_W.iast rfl rfl (i := 3 * n + 2) (by simp only [px_up, if_false, if_true, hn]; exact ix3b n) (by omega) (by decide) ?_
  refine px_W.run 5 (f' := (89, [some (.ref 40), some (.int q), some (.int (cI k)), some (.int 1)], [.int ((σ 40 8) + 1), .ref 40])) (h' := (sh0, (px_up (px_up (px_up σ 47 (upd (σ 47) (3 * n) q)) 47 (upd (upd (σ 47) (3 * n) q) (3 * n + 1) (cI k))) 47 (upd (upd (upd (σ 47) (3 * n) q) (3 * n + 1) (cI k)) (3 * n + 2) 1)))) rfl ?_
  refine px_W.puti rfl rfl ?_
  refine px_W.run 2 (f' := (96, [some (.ref 40), some (.int q), some (.int (cI k)), some (.int 1)], [.int ((σ 40 8) + 1)])) (h' := (sh0, (px_up (px_up (px_up (px_up σ 47 (upd (σ 47) (3 * n) q)) 47 (upd (upd (σ 47) (3 * n) q) (3 * n + 1) (cI k))) 47 (upd (upd (upd (σ 47) (3 * n) q) (3 * n + 1) (cI k)) (3 * n + 2) 1)) 40 (upd (σ 40) 8 ((σ 40 8) + 1))))) rfl ?_
  exact px_W.iret rfl rfl ⟨rfl, rfl⟩
