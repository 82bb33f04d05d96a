def yk : Nat → Nat
  | 0 => 3
  | 1 => 2
  | 2 => 4
  | 3 => 4
  | _ => 1
theorem yr_d {dr : Nat} (h : dr < 65537) : (75 * nI dr + 74) - (75 * nI dr + 74) / 65537 * 65537 = nI ((75 * dr + 74) % 65537) := by
  have h1 : 75 * nI dr + 74 = nI (75 * dr + 74) := by
    rw [show (75 : Int32) = nI 75 from rfl, show (74 : Int32) = nI 74 from rfl, pk_mul, nI_add]
  rw [h1]
  exact pk_rem (d := 65537) (by omega) (by omega) (by omega)
theorem yr_r {d : Nat} (h : d < 65537) : nI d - nI d / 8 * 8 = nI (d % 8) := pk_rem (d := 8) (by omega) (by omega) (by omega)
theorem yr_q {d : Nat} (h : d < 65537) : nI d / 8 - nI d / 8 / 8 * 8 = cI (d / 8 % 8) := by
  rw [show nI d / 8 = nI (d / 8) from pk_div (d := 8) (by omega) (by omega) (by omega), cI_n]
  exact pk_rem (d := 8) (by omega) (by omega) (by omega)
theorem t_kod0 {L : Nat} {xs : Nat → Int32} (σ : px_Sg) : px_E L xs mX2_kindOfDraw [.int 0] σ (some (.int 3)) σ := by
  show px_W L xs mX2_kindOfDraw (0, [some (.int 0)], []) (sh0, σ) _
  refine px_W.run 1 (f' := (1, [some (.int 0)], [.int 0])) (h' := (sh0, σ)) rfl ?_
  refine px_W.tsw (tg := 32) rfl (by decide) ?_
  refine px_W.run 1 (f' := (33, [some (.int 0)], [.int 3])) (h' := (sh0, σ)) rfl ?_
  exact px_W.iret rfl rfl ⟨rfl, rfl⟩
theorem t_kod1 {L : Nat} {xs : Nat → Int32} (σ : px_Sg) : px_E L xs mX2_kindOfDraw [.int 1] σ (some (.int 2)) σ := by
  show px_W L xs mX2_kindOfDraw (0, [some (.int 1)], []) (sh0, σ) _
  refine px_W.run 1 (f' := (1, [some (.int 1)], [.int 1])) (h' := (sh0, σ)) rfl ?_
  refine px_W.tsw (tg := 34) rfl (by decide) ?_
  refine px_W.run 1 (f' := (35, [some (.int 1)], [.int 2])) (h' := (sh0, σ)) rfl ?_
  exact px_W.iret rfl rfl ⟨rfl, rfl⟩
theorem t_kod2 {L : Nat} {xs : Nat → Int32} (σ : px_Sg) : px_E L xs mX2_kindOfDraw [.int 2] σ (some (.int 4)) σ := by
  show px_W L xs mX2_kindOfDraw (0, [some (.int 2)], []) (sh0, σ) _
  refine px_W.run 1 (f' := (1, [some (.int 2)], [.int 2])) (h' := (sh0, σ)) rfl ?_
  refine px_W.tsw (tg := 36) rfl (by decide) ?_
  refine px_W.run 1 (f' := (37, [some (.int 2)], [.int 4])) (h' := (sh0, σ)) rfl ?_
  exact px_W.iret rfl rfl ⟨rfl, rfl⟩
theorem t_kod3 {L : Nat} {xs : Nat → Int32} (σ : px_Sg) : px_E L xs mX2_kindOfDraw [.int 3] σ (some (.int 4)) σ := by
  show px_W L xs mX2_kindOfDraw (0, [some (.int 3)], []) (sh0, σ) _
  refine px_W.run 1 (f' := (1, [some (.int 3)], [.int 3])) (h' := (sh0, σ)) rfl ?_
  refine px_W.tsw (tg := 36) rfl (by decide) ?_
  refine px_W.run 1 (f' := (37, [some (.int 3)], [.int 4])) (h' := (sh0, σ)) rfl ?_
  exact px_W.iret rfl rfl ⟨rfl, rfl⟩
theorem t_kod4 {L : Nat} {xs : Nat → Int32} (σ : px_Sg) : px_E L xs mX2_kindOfDraw [.int 4] σ (some (.int 1)) σ := by
  show px_W L xs mX2_kindOfDraw (0, [some (.int 4)], []) (sh0, σ) _
  refine px_W.run 1 (f' := (1, [some (.int 4)], [.int 4])) (h' := (sh0, σ)) rfl ?_
  refine px_W.tsw (tg := 38) rfl (by decide) ?_
  refine px_W.run 1 (f' := (39, [some (.int 4)], [.int 1])) (h' := (sh0, σ)) rfl ?_
  exact px_W.iret rfl rfl ⟨rfl, rfl⟩
theorem t_kod5 {L : Nat} {xs : Nat → Int32} (σ : px_Sg) : px_E L xs mX2_kindOfDraw [.int 5] σ (some (.int 1)) σ := by
  show px_W L xs mX2_kindOfDraw (0, [some (.int 5)], []) (sh0, σ) _
  refine px_W.run 1 (f' := (1, [some (.int 5)], [.int 5])) (h' := (sh0, σ)) rfl ?_
  refine px_W.tsw (tg := 38) rfl (by decide) ?_
  refine px_W.run 1 (f' := (39, [some (.int 5)], [.int 1])) (h' := (sh0, σ)) rfl ?_
  exact px_W.iret rfl rfl ⟨rfl, rfl⟩
theorem t_kod6 {L : Nat} {xs : Nat → Int32} (σ : px_Sg) : px_E L xs mX2_kindOfDraw [.int 6] σ (some (.int 1)) σ := by
  show px_W L xs mX2_kindOfDraw (0, [some (.int 6)], []) (sh0, σ) _
  refine px_W.run 1 (f' := (1, [some (.int 6)], [.int 6])) (h' := (sh0, σ)) rfl ?_
  refine px_W.tsw (tg := 38) rfl (by decide) ?_
  refine px_W.run 1 (f' := (39, [some (.int 6)], [.int 1])) (h' := (sh0, σ)) rfl ?_
  exact px_W.iret rfl rfl ⟨rfl, rfl⟩
theorem t_kod7 {L : Nat} {xs : Nat → Int32} (σ : px_Sg) : px_E L xs mX2_kindOfDraw [.int 7] σ (some (.int 1)) σ := by
  show px_W L xs mX2_kindOfDraw (0, [some (.int 7)], []) (sh0, σ) _
  refine px_W.run 1 (f' := (1, [some (.int 7)], [.int 7])) (h' := (sh0, σ)) rfl ?_
  refine px_W.tsw (tg := 38) rfl (by decide) ?_
  refine px_W.run 1 (f' := (39, [some (.int 7)], [.int 1])) (h' := (sh0, σ)) rfl ?_
  exact px_W.iret rfl rfl ⟨rfl, rfl⟩
theorem t_kod {L : Nat} {xs : Nat → Int32} (σ : px_Sg) {j : Nat} (h : j < 8) : px_E L xs mX2_kindOfDraw [.int (nI j)] σ (some (.int (nI (yk j)))) σ := by
  match j, h with
  | 0, _ => exact t_kod0 σ
  | 1, _ => exact t_kod1 σ
  | 2, _ => exact t_kod2 σ
  | 3, _ => exact t_kod3 σ
  | 4, _ => exact t_kod4 σ
  | 5, _ => exact t_kod5 σ
  | 6, _ => exact t_kod6 σ
  | 7, _ => exact t_kod7 σ
theorem nI_geC {i n : Nat} (h60 : n < 1000) (hi : i < n) : ¬ nI n ≤ cI i := ge_no n hi (by omega)
theorem yX_turn {L : Nat} {xs : Nat → Int32} {Q : Option Value → px_H → Prop} (σ : px_Sg) {n : Nat} (h60 : n < 1000) (s w b : Int32) {dr d i : Nat} (hi : i < n) (hdr : dr < 65537) (hd : d = (75 * dr + 74) % 65537) (hd7 : d < 65537) {r : Int32} {σ1 : px_Sg} (hT : px_E L xs mX1_takeIfItCanBe [.ref 10, .int (nI (yk (d % 8))), .int (cI (d / 8 % 8))] σ (some (.int r)) σ1) (hk : px_W L xs mX2_year (63, [some (.ref 0), some (.int s), some (.int (nI n)), some (.int w), some (.int b), some (.int (nI d)), some (.int (cI (i + 1)))], []) (sh0, σ1) Q) : px_W L xs mX2_year (63, [some (.ref 0), some (.int s), some (.int (nI n)), some (.int w), some (.int b), some (.int (nI dr)), some (.int (cI i))], []) (sh0, σ) Q := by
  refine px_W.run 2 (f' := (66, [some (.ref 0), some (.int s), some (.int (nI n)), some (.int w), some (.int b), some (.int (nI dr)), some (.int (cI i))], [.int (nI n), .int (cI i)])) (h' := (sh0, σ)) rfl ?_
  refine px_W.icmp_ge rfl (fun c1 => absurd c1 (nI_geC (by omega) hi)) (fun c1 => ?_)
  refine px_W.run 6 (f' := (79, [some (.ref 0), some (.int s), some (.int (nI n)), some (.int w), some (.int b), some (.int (nI dr)), some (.int (cI i))], [.int 65537, .int ((75 * (nI dr)) + 74)])) (h' := (sh0, σ)) rfl ?_
  refine px_W.irem rfl (by decide) ?_
  refine px_W.to (f' := (80, [some (.ref 0), some (.int s), some (.int (nI n)), some (.int w), some (.int b), some (.int (nI dr)), some (.int (cI i))], [.int (nI d)])) (h' := (sh0, σ)) (by rw [hd, ← yr_d hdr]) ?_
  refine px_W.run 5 (f' := (90, [some (.ref 0), some (.int s), some (.int (nI n)), some (.int w), some (.int b), some (.int (nI d)), some (.int (cI i))], [.int 8, .int (nI d), .ref 10])) (h' := (sh0, σ)) rfl ?_
  refine px_W.irem rfl (by decide) ?_
  refine px_W.to (f' := (91, [some (.ref 0), some (.int s), some (.int (nI n)), some (.int w), some (.int b), some (.int (nI d)), some (.int (cI i))], [.int (nI (d % 8)), .ref 10])) (h' := (sh0, σ)) (by rw [← yr_r hd7]) ?_
  refine px_W.cE (as := [.int (nI (d % 8))]) (st := [.ref 10]) (v := some (.int (nI (yk (d % 8))))) (σ' := σ) rfl rfl rfl (t_kod σ (j := d % 8) (by omega)) ?_
  refine px_W.run 2 (f' := (98, [some (.ref 0), some (.int s), some (.int (nI n)), some (.int w), some (.int b), some (.int (nI d)), some (.int (cI i))], [.int 8, .int (nI d), .int (nI (yk (d % 8))), .ref 10])) (h' := (sh0, σ)) rfl ?_
  refine px_W.idiv rfl (by decide) ?_
  refine px_W.run 1 (f' := (101, [some (.ref 0), some (.int s), some (.int (nI n)), some (.int w), some (.int b), some (.int (nI d)), some (.int (cI i))], [.int 8, .int ((nI d) / 8), .int (nI (yk (d % 8))), .ref 10])) (h' := (sh0, σ)) rfl ?_
  refine px_W.irem rfl (by decide) ?_
  refine px_W.to (f' := (102, [some (.ref 0), some (.int s), some (.int (nI n)), some (.int w), some (.int b), some (.int (nI d)), some (.int (cI i))], [.int (cI (d / 8 % 8)), .int (nI (yk (d % 8))), .ref 10])) (h' := (sh0, σ)) (by rw [← yr_q hd7]) ?_
  refine px_W.cE (as := [.ref 10, .int (nI (yk (d % 8))), .int (cI (d / 8 % 8))]) (st := []) (v := some (.int r)) (σ' := σ1) rfl rfl rfl (hT) ?_
  refine px_W.run 3 (f' := (63, [some (.ref 0), some (.int s), some (.int (nI n)), some (.int w), some (.int b), some (.int (nI d)), some (.int ((cI i) + 1))], [])) (h' := (sh0, σ1)) rfl ?_
  exact hk
theorem yX_end0 {L : Nat} {xs : Nat → Int32} {Q : Option Value → px_H → Prop} (σ : px_Sg) {n : Nat} (h60 : n < 1000) (s x b : Int32) (hq : Q (some (.int (σ 10 12))) (sh0, σ))  : px_W L xs mX2_year (63, [some (.ref 0), some (.int s), some (.int (nI n)), some (.int 0), some (.int b), some (.int x), some (.int (cI n))], []) (sh0, σ) Q := by
  refine px_W.run 2 (f' := (66, [some (.ref 0), some (.int s), some (.int (nI n)), some (.int 0), some (.int b), some (.int x), some (.int (cI n))], [.int (nI n), .int (cI n)])) (h' := (sh0, σ)) rfl ?_
  refine px_W.icmp_ge rfl (fun c1 => ?_) (fun c1 => absurd (ge_yes n (by omega)) c1)
  refine px_W.run 1 (f' := (113, [some (.ref 0), some (.int s), some (.int (nI n)), some (.int 0), some (.int b), some (.int x), some (.int (cI n))], [.int 0])) (h' := (sh0, σ)) rfl ?_
  refine px_W.if_ne rfl (fun c2 => ?_) (fun c2 => absurd (by decide) c2)
  refine px_W.run 3 (f' := (123, [some (.ref 0), some (.int s), some (.int (nI n)), some (.int 0), some (.int b), some (.int x), some (.int (cI n))], [.int (σ 10 12)])) (h' := (sh0, σ)) rfl ?_
  exact px_W.iret rfl rfl (hq)
theorem yX_end1 {L : Nat} {xs : Nat → Int32} {Q : Option Value → px_H → Prop} (σ : px_Sg) {n : Nat} (h60 : n < 1000) (s x b : Int32) (hq : Q (some (.int (σ 10 13))) (sh0, σ))  : px_W L xs mX2_year (63, [some (.ref 0), some (.int s), some (.int (nI n)), some (.int 1), some (.int b), some (.int x), some (.int (cI n))], []) (sh0, σ) Q := by
  refine px_W.run 2 (f' := (66, [some (.ref 0), some (.int s), some (.int (nI n)), some (.int 1), some (.int b), some (.int x), some (.int (cI n))], [.int (nI n), .int (cI n)])) (h' := (sh0, σ)) rfl ?_
  refine px_W.icmp_ge rfl (fun c1 => ?_) (fun c1 => absurd (ge_yes n (by omega)) c1)
  refine px_W.run 1 (f' := (113, [some (.ref 0), some (.int s), some (.int (nI n)), some (.int 1), some (.int b), some (.int x), some (.int (cI n))], [.int 1])) (h' := (sh0, σ)) rfl ?_
  refine px_W.if_ne rfl (fun c2 => absurd c2 (by decide)) (fun c2 => ?_)
  refine px_W.run 2 (f' := (126, [some (.ref 0), some (.int s), some (.int (nI n)), some (.int 1), some (.int b), some (.int x), some (.int (cI n))], [.int 1, .int 1])) (h' := (sh0, σ)) rfl ?_
  refine px_W.icmp_ne rfl (fun c3 => ?_) (fun c3 => absurd (by decide) c3)
  refine px_W.run 4 (f' := (146, [some (.ref 0), some (.int s), some (.int (nI n)), some (.int 1), some (.int b), some (.int x), some (.int (cI n))], [.int (σ 10 13)])) (h' := (sh0, σ)) rfl ?_
  exact px_W.iret rfl rfl (hq)
theorem yX_end2 {L : Nat} {xs : Nat → Int32} {Q : Option Value → px_H → Prop} (σ : px_Sg) {n : Nat} (h60 : n < 1000) (s x b : Int32) (hq : Q (some (.int (σ 10 14))) (sh0, σ))  : px_W L xs mX2_year (63, [some (.ref 0), some (.int s), some (.int (nI n)), some (.int 2), some (.int b), some (.int x), some (.int (cI n))], []) (sh0, σ) Q := by
  refine px_W.run 2 (f' := (66, [some (.ref 0), some (.int s), some (.int (nI n)), some (.int 2), some (.int b), some (.int x), some (.int (cI n))], [.int (nI n), .int (cI n)])) (h' := (sh0, σ)) rfl ?_
  refine px_W.icmp_ge rfl (fun c1 => ?_) (fun c1 => absurd (ge_yes n (by omega)) c1)
  refine px_W.run 1 (f' := (113, [some (.ref 0), some (.int s), some (.int (nI n)), some (.int 2), some (.int b), some (.int x), some (.int (cI n))], [.int 2])) (h' := (sh0, σ)) rfl ?_
  refine px_W.if_ne rfl (fun c2 => absurd c2 (by decide)) (fun c2 => ?_)
  refine px_W.run 2 (f' := (126, [some (.ref 0), some (.int s), some (.int (nI n)), some (.int 2), some (.int b), some (.int x), some (.int (cI n))], [.int 1, .int 2])) (h' := (sh0, σ)) rfl ?_
  refine px_W.icmp_ne rfl (fun c3 => absurd c3 (by decide)) (fun c3 => ?_)
  refine px_W.run 3 (f' := (146, [some (.ref 0), some (.int s), some (.int (nI n)), some (.int 2), some (.int b), some (.int x), some (.int (cI n))], [.int (σ 10 14)])) (h' := (sh0, σ)) rfl ?_
  exact px_W.iret rfl rfl (hq)
theorem yr_in {p q w : Int32} (a : ¬ p < 0) (b : p ≤ 9999) (c : ¬ q < 1) (d : q ≤ 99) (e : ¬ w < 0) (f : w ≤ 2) : (iB p 0 9999 && iB q 1 99 && iB w 0 2) = true := by
  rw [iB_in a b, iB_in c d, iB_in e f]; rfl
theorem yr_of {p q w : Int32} (h : (iB p 0 9999 && iB q 1 99 && iB w 0 2) = true) : ¬ p < 0 ∧ ¬ 9999 < p ∧ ¬ q < 1 ∧ ¬ 99 < q ∧ ¬ w < 0 ∧ ¬ 2 < w := by
  simp only [iB, Bool.and_eq_true, Bool.not_eq_true', decide_eq_false_iff_not] at h
  exact ⟨h.1.1.1, h.1.1.2, h.1.2.1, h.1.2.2, h.2.1, h.2.2⟩
theorem tX_year0 {L : Nat} {xs : Nat → Int32} (σ : px_Sg) (p q w : Int32) (hv : (iB p 0 9999 && iB q 1 99 && iB w 0 2) = false) : px_E L xs mX2_year [.ref 0, .int p, .int q, .int w] σ (some (.int (-2))) σ := by
  show px_W L xs mX2_year (0, [some (.ref 0), some (.int p), some (.int q), some (.int w), none, none, none], []) (sh0, σ) _
  refine px_W.run 1 (f' := (1, [some (.ref 0), some (.int p), some (.int q), some (.int w), none, none, none], [.int p])) (h' := (sh0, σ)) rfl ?_
  refine px_W.if_lt rfl (fun c1 => ?_) (fun c1 => ?_)
  · refine px_W.run 3 (f' := (20, [some (.ref 0), some (.int p), some (.int q), some (.int w), some (.int 0), none, none], [.int 0])) (h' := (sh0, σ)) rfl ?_
    refine px_W.if_eq rfl (fun c2 => ?_) (fun c2 => absurd (by decide) c2)
    refine px_W.run 1 (f' := (45, [some (.ref 0), some (.int p), some (.int q), some (.int w), some (.int 0), none, none], [.int ((-2))])) (h' := (sh0, σ)) rfl ?_
    exact px_W.iret rfl rfl ⟨rfl, rfl⟩
  · refine px_W.run 2 (f' := (8, [some (.ref 0), some (.int p), some (.int q), some (.int w), none, none, none], [.int 9999, .int p])) (h' := (sh0, σ)) rfl ?_
    refine px_W.icmp_gt rfl (fun c3 => ?_) (fun c3 => ?_)
    · refine px_W.run 3 (f' := (20, [some (.ref 0), some (.int p), some (.int q), some (.int w), some (.int 0), none, none], [.int 0])) (h' := (sh0, σ)) rfl ?_
      refine px_W.if_eq rfl (fun c4 => ?_) (fun c4 => absurd (by decide) c4)
      refine px_W.run 1 (f' := (45, [some (.ref 0), some (.int p), some (.int q), some (.int w), some (.int 0), none, none], [.int ((-2))])) (h' := (sh0, σ)) rfl ?_
      exact px_W.iret rfl rfl ⟨rfl, rfl⟩
    · refine px_W.run 4 (f' := (20, [some (.ref 0), some (.int p), some (.int q), some (.int w), some (.int 1), none, none], [.int 1])) (h' := (sh0, σ)) rfl ?_
      refine px_W.if_eq rfl (fun c5 => absurd c5 (by decide)) (fun c5 => ?_)
      refine px_W.run 2 (f' := (25, [some (.ref 0), some (.int p), some (.int q), some (.int w), some (.int 1), none, none], [.int 1, .int q])) (h' := (sh0, σ)) rfl ?_
      refine px_W.icmp_lt rfl (fun c6 => ?_) (fun c6 => ?_)
      · refine px_W.run 1 (f' := (45, [some (.ref 0), some (.int p), some (.int q), some (.int w), some (.int 1), none, none], [.int ((-2))])) (h' := (sh0, σ)) rfl ?_
        exact px_W.iret rfl rfl ⟨rfl, rfl⟩
      · refine px_W.run 2 (f' := (31, [some (.ref 0), some (.int p), some (.int q), some (.int w), some (.int 1), none, none], [.int 99, .int q])) (h' := (sh0, σ)) rfl ?_
        refine px_W.icmp_gt rfl (fun c7 => ?_) (fun c7 => ?_)
        · refine px_W.run 1 (f' := (45, [some (.ref 0), some (.int p), some (.int q), some (.int w), some (.int 1), none, none], [.int ((-2))])) (h' := (sh0, σ)) rfl ?_
          exact px_W.iret rfl rfl ⟨rfl, rfl⟩
        · refine px_W.run 1 (f' := (35, [some (.ref 0), some (.int p), some (.int q), some (.int w), some (.int 1), none, none], [.int w])) (h' := (sh0, σ)) rfl ?_
          refine px_W.if_lt rfl (fun c8 => ?_) (fun c8 => ?_)
          · refine px_W.run 1 (f' := (45, [some (.ref 0), some (.int p), some (.int q), some (.int w), some (.int 1), none, none], [.int ((-2))])) (h' := (sh0, σ)) rfl ?_
            exact px_W.iret rfl rfl ⟨rfl, rfl⟩
          · refine px_W.run 2 (f' := (40, [some (.ref 0), some (.int p), some (.int q), some (.int w), some (.int 1), none, none], [.int 2, .int w])) (h' := (sh0, σ)) rfl ?_
            refine px_W.icmp_le rfl (fun c9 => ?_) (fun c9 => ?_)
            · exact absurd (yr_in (p := p) (q := q) (w := w) (by assumption) (Int32.not_lt.mp (by assumption)) (by assumption) (Int32.not_lt.mp (by assumption)) (by assumption) (by assumption)) (by rw [hv]; decide)
            · refine px_W.run 1 (f' := (45, [some (.ref 0), some (.int p), some (.int q), some (.int w), some (.int 1), none, none], [.int ((-2))])) (h' := (sh0, σ)) rfl ?_
              exact px_W.iret rfl rfl ⟨rfl, rfl⟩
theorem yX_0 {L : Nat} {xs : Nat → Int32} {Q : Option Value → px_H → Prop} (σ : px_Sg) (hz : σ 1 9 = 0 ∨ σ 1 9 = 1) (p q w : Int32) (hv : (iB p 0 9999 && iB q 1 99 && iB w 0 2) = true) (hk : px_W L xs mX2_year (63, [some (.ref 0), some (.int p), some (.int q), some (.int w), some (.int 1), some (.int p), some (.int 0)], []) (sh0, (s_copy_10_1 σ)) Q) : px_W L xs mX2_year (0, [some (.ref 0), some (.int p), some (.int q), some (.int w), none, none, none], []) (sh0, σ) Q := by
  refine px_W.run 1 (f' := (1, [some (.ref 0), some (.int p), some (.int q), some (.int w), none, none, none], [.int p])) (h' := (sh0, σ)) rfl ?_
  refine px_W.if_lt rfl (fun c1 => absurd c1 ((yr_of hv).1)) (fun c1 => ?_)
  refine px_W.run 2 (f' := (8, [some (.ref 0), some (.int p), some (.int q), some (.int w), none, none, none], [.int 9999, .int p])) (h' := (sh0, σ)) rfl ?_
  refine px_W.icmp_gt rfl (fun c2 => absurd c2 ((yr_of hv).2.1)) (fun c2 => ?_)
  refine px_W.run 4 (f' := (20, [some (.ref 0), some (.int p), some (.int q), some (.int w), some (.int 1), none, none], [.int 1])) (h' := (sh0, σ)) rfl ?_
  refine px_W.if_eq rfl (fun c3 => absurd c3 (by decide)) (fun c3 => ?_)
  refine px_W.run 2 (f' := (25, [some (.ref 0), some (.int p), some (.int q), some (.int w), some (.int 1), none, none], [.int 1, .int q])) (h' := (sh0, σ)) rfl ?_
  refine px_W.icmp_lt rfl (fun c4 => absurd c4 ((yr_of hv).2.2.1)) (fun c4 => ?_)
  refine px_W.run 2 (f' := (31, [some (.ref 0), some (.int p), some (.int q), some (.int w), some (.int 1), none, none], [.int 99, .int q])) (h' := (sh0, σ)) rfl ?_
  refine px_W.icmp_gt rfl (fun c5 => absurd c5 ((yr_of hv).2.2.2.1)) (fun c5 => ?_)
  refine px_W.run 1 (f' := (35, [some (.ref 0), some (.int p), some (.int q), some (.int w), some (.int 1), none, none], [.int w])) (h' := (sh0, σ)) rfl ?_
  refine px_W.if_lt rfl (fun c6 => absurd c6 ((yr_of hv).2.2.2.2.1)) (fun c6 => ?_)
  refine px_W.run 2 (f' := (40, [some (.ref 0), some (.int p), some (.int q), some (.int w), some (.int 1), none, none], [.int 2, .int w])) (h' := (sh0, σ)) rfl ?_
  refine px_W.icmp_le rfl (fun c7 => ?_) (fun c7 => absurd (Int32.not_lt.mp (yr_of hv).2.2.2.2.2) c7)
  refine px_W.run 4 (f' := (54, [some (.ref 0), some (.int p), some (.int q), some (.int w), some (.int 1), none, none], [.ref 1, .ref 10])) (h' := (sh0, σ)) rfl ?_
  refine px_W.cE (as := [.ref 10, .ref 1]) (st := []) (v := none) (σ' := (s_copy_10_1 σ)) rfl rfl rfl (t_copy_10_1 σ hz) ?_
  refine px_W.run 4 (f' := (63, [some (.ref 0), some (.int p), some (.int q), some (.int w), some (.int 1), some (.int p), some (.int 0)], [])) (h' := (sh0, (s_copy_10_1 σ))) rfl ?_
  exact hk
theorem yM_sit {L : Nat} {xs : Nat → Int32} {Q : Option Value → px_H → Prop} (σ : px_Sg) {n : Nat} (h60 : n < 1000) (s w : Int32) {dr d i : Nat} (hi : i < n) (hdr : dr < 65537) (hd : d = (75 * dr + 74) % 65537) (hd7 : d < 65537) (hj : d % 8 = 0) (hk : px_W L xs mX3_year (43, [some (.ref 40), some (.int s), some (.int (nI n)), some (.int w), some (.int (nI d)), some (.int (cI (i + 1))), none, none], []) (sh0, (px_up σ 40 (upd (σ 40) 14 (1 - (σ 40 14))))) Q) : px_W L xs mX3_year (43, [some (.ref 40), some (.int s), some (.int (nI n)), some (.int w), some (.int (nI dr)), some (.int (cI i)), none, none], []) (sh0, σ) Q := by
  refine px_W.run 2 (f' := (46, [some (.ref 40), some (.int s), some (.int (nI n)), some (.int w), some (.int (nI dr)), some (.int (cI i)), none, none], [.int (nI n), .int (cI i)])) (h' := (sh0, σ)) rfl ?_
  refine px_W.icmp_ge rfl (fun c1 => absurd c1 (nI_geC (by omega) hi)) (fun c1 => ?_)
  refine px_W.run 6 (f' := (59, [some (.ref 40), some (.int s), some (.int (nI n)), some (.int w), some (.int (nI dr)), some (.int (cI i)), none, none], [.int 65537, .int ((75 * (nI dr)) + 74)])) (h' := (sh0, σ)) rfl ?_
  refine px_W.irem rfl (by decide) ?_
  refine px_W.to (f' := (60, [some (.ref 40), some (.int s), some (.int (nI n)), some (.int w), some (.int (nI dr)), some (.int (cI i)), none, none], [.int (nI d)])) (h' := (sh0, σ)) (by rw [hd, ← yr_d hdr]) ?_
  refine px_W.run 3 (f' := (66, [some (.ref 40), some (.int s), some (.int (nI n)), some (.int w), some (.int (nI d)), some (.int (cI i)), none, none], [.int 8, .int (nI d)])) (h' := (sh0, σ)) rfl ?_
  refine px_W.irem rfl (by decide) ?_
  refine px_W.to (f' := (67, [some (.ref 40), some (.int s), some (.int (nI n)), some (.int w), some (.int (nI d)), some (.int (cI i)), none, none], [.int (nI (d % 8))])) (h' := (sh0, σ)) (by rw [← yr_r hd7]) ?_
  refine px_W.run 3 (f' := (73, [some (.ref 40), some (.int s), some (.int (nI n)), some (.int w), some (.int (nI d)), some (.int (cI i)), some (.int (nI (d % 8))), none], [.int 8, .int (nI d)])) (h' := (sh0, σ)) rfl ?_
  refine px_W.idiv rfl (by decide) ?_
  refine px_W.run 1 (f' := (76, [some (.ref 40), some (.int s), some (.int (nI n)), some (.int w), some (.int (nI d)), some (.int (cI i)), some (.int (nI (d % 8))), none], [.int 8, .int ((nI d) / 8)])) (h' := (sh0, σ)) rfl ?_
  refine px_W.irem rfl (by decide) ?_
  refine px_W.to (f' := (77, [some (.ref 40), some (.int s), some (.int (nI n)), some (.int w), some (.int (nI d)), some (.int (cI i)), some (.int (nI (d % 8))), none], [.int (cI (d / 8 % 8))])) (h' := (sh0, σ)) (by rw [← yr_q hd7]) ?_
  refine px_W.run 2 (f' := (81, [some (.ref 40), some (.int s), some (.int (nI n)), some (.int w), some (.int (nI d)), some (.int (cI i)), some (.int (nI (d % 8))), some (.int (cI (d / 8 % 8)))], [.int (nI (d % 8))])) (h' := (sh0, σ)) rfl ?_
  refine px_W.if_ne rfl (fun c2 => ?_) (fun c2 => absurd (by rw [hj]; rfl) c2)
  refine px_W.run 5 (f' := (91, [some (.ref 40), some (.int s), some (.int (nI n)), some (.int w), some (.int (nI d)), some (.int (cI i)), some (.int (nI (d % 8))), some (.int (cI (d / 8 % 8)))], [.int (1 - (σ 40 14)), .ref 40])) (h' := (sh0, σ)) rfl ?_
  refine px_W.puti rfl rfl ?_
  refine px_W.run 3 (f' := (43, [some (.ref 40), some (.int s), some (.int (nI n)), some (.int w), some (.int (nI d)), some (.int ((cI i) + 1)), some (.int (nI (d % 8))), some (.int (cI (d / 8 % 8)))], [])) (h' := (sh0, (px_up σ 40 (upd (σ 40) 14 (1 - (σ 40 14)))))) rfl ?_
  exact px_W.drop (loc := [some (.ref 40), some (.int s), some (.int (nI n)), some (.int w), some (.int (nI d)), some (.int (cI (i + 1))), none, none]) (by repeat' constructor) (hk)
theorem yM_over {L : Nat} {xs : Nat → Int32} {Q : Option Value → px_H → Prop} (σ : px_Sg) {n : Nat} (h60 : n < 1000) (s w : Int32) {dr d i : Nat} (hi : i < n) (hdr : dr < 65537) (hd : d = (75 * dr + 74) % 65537) (hd7 : d < 65537) (hj : d % 8 = 1) (hkA : σ 49 (d / 8 % 8) ≤ 0 → px_W L xs mX3_year (43, [some (.ref 40), some (.int s), some (.int (nI n)), some (.int w), some (.int (nI d)), some (.int (cI (i + 1))), none, none], []) (sh0, σ) Q) (hkB : ¬ σ 49 (d / 8 % 8) ≤ 0 → px_W L xs mX3_year (43, [some (.ref 40), some (.int s), some (.int (nI n)), some (.int w), some (.int (nI d)), some (.int (cI (i + 1))), none, none], []) (sh0, (s40_over σ (d / 8 % 8))) Q) : px_W L xs mX3_year (43, [some (.ref 40), some (.int s), some (.int (nI n)), some (.int w), some (.int (nI dr)), some (.int (cI i)), none, none], []) (sh0, σ) Q := by
  refine px_W.run 2 (f' := (46, [some (.ref 40), some (.int s), some (.int (nI n)), some (.int w), some (.int (nI dr)), some (.int (cI i)), none, none], [.int (nI n), .int (cI i)])) (h' := (sh0, σ)) rfl ?_
  refine px_W.icmp_ge rfl (fun c1 => absurd c1 (nI_geC (by omega) hi)) (fun c1 => ?_)
  refine px_W.run 6 (f' := (59, [some (.ref 40), some (.int s), some (.int (nI n)), some (.int w), some (.int (nI dr)), some (.int (cI i)), none, none], [.int 65537, .int ((75 * (nI dr)) + 74)])) (h' := (sh0, σ)) rfl ?_
  refine px_W.irem rfl (by decide) ?_
  refine px_W.to (f' := (60, [some (.ref 40), some (.int s), some (.int (nI n)), some (.int w), some (.int (nI dr)), some (.int (cI i)), none, none], [.int (nI d)])) (h' := (sh0, σ)) (by rw [hd, ← yr_d hdr]) ?_
  refine px_W.run 3 (f' := (66, [some (.ref 40), some (.int s), some (.int (nI n)), some (.int w), some (.int (nI d)), some (.int (cI i)), none, none], [.int 8, .int (nI d)])) (h' := (sh0, σ)) rfl ?_
  refine px_W.irem rfl (by decide) ?_
  refine px_W.to (f' := (67, [some (.ref 40), some (.int s), some (.int (nI n)), some (.int w), some (.int (nI d)), some (.int (cI i)), none, none], [.int (nI (d % 8))])) (h' := (sh0, σ)) (by rw [← yr_r hd7]) ?_
  refine px_W.run 3 (f' := (73, [some (.ref 40), some (.int s), some (.int (nI n)), some (.int w), some (.int (nI d)), some (.int (cI i)), some (.int (nI (d % 8))), none], [.int 8, .int (nI d)])) (h' := (sh0, σ)) rfl ?_
  refine px_W.idiv rfl (by decide) ?_
  refine px_W.run 1 (f' := (76, [some (.ref 40), some (.int s), some (.int (nI n)), some (.int w), some (.int (nI d)), some (.int (cI i)), some (.int (nI (d % 8))), none], [.int 8, .int ((nI d) / 8)])) (h' := (sh0, σ)) rfl ?_
  refine px_W.irem rfl (by decide) ?_
  refine px_W.to (f' := (77, [some (.ref 40), some (.int s), some (.int (nI n)), some (.int w), some (.int (nI d)), some (.int (cI i)), some (.int (nI (d % 8))), none], [.int (cI (d / 8 % 8))])) (h' := (sh0, σ)) (by rw [← yr_q hd7]) ?_
  refine px_W.run 2 (f' := (81, [some (.ref 40), some (.int s), some (.int (nI n)), some (.int w), some (.int (nI d)), some (.int (cI i)), some (.int (nI (d % 8))), some (.int (cI (d / 8 % 8)))], [.int (nI (d % 8))])) (h' := (sh0, σ)) rfl ?_
  refine px_W.if_ne rfl (fun c2 => absurd c2 (fun z => absurd ((nI_eq (b := 0) (by omega) (by decide)).mp z) (by omega))) (fun c2 => ?_)
  refine px_W.run 2 (f' := (100, [some (.ref 40), some (.int s), some (.int (nI n)), some (.int w), some (.int (nI d)), some (.int (cI i)), some (.int (nI (d % 8))), some (.int (cI (d / 8 % 8)))], [.int 1, .int (nI (d % 8))])) (h' := (sh0, σ)) rfl ?_
  refine px_W.icmp_ne rfl (fun c3 => ?_) (fun c3 => absurd (by rw [hj]; rfl) c3)
  refine px_W.run 3 (f' := (109, [some (.ref 40), some (.int s), some (.int (nI n)), some (.int w), some (.int (nI d)), some (.int (cI i)), some (.int (nI (d % 8))), some (.int (cI (d / 8 % 8)))], [.int (cI (d / 8 % 8)), .ref 49])) (h' := (sh0, σ)) rfl ?_
  refine px_W.iald rfl rfl (i := d / 8 % 8) (cI_n _) (by omega) (by decide) ?_
  refine px_W.if_le rfl (fun c4 => ?_) (fun c4 => ?_)
  · refine px_W.run 2 (f' := (43, [some (.ref 40), some (.int s), some (.int (nI n)), some (.int w), some (.int (nI d)), some (.int ((cI i) + 1)), some (.int (nI (d % 8))), some (.int (cI (d / 8 % 8)))], [])) (h' := (sh0, σ)) rfl ?_
    exact px_W.drop (loc := [some (.ref 40), some (.int s), some (.int (nI n)), some (.int w), some (.int (nI d)), some (.int (cI (i + 1))), none, none]) (by repeat' constructor) (hkA (by assumption))
  · refine px_W.run 2 (f' := (116, [some (.ref 40), some (.int s), some (.int (nI n)), some (.int w), some (.int (nI d)), some (.int (cI i)), some (.int (nI (d % 8))), some (.int (cI (d / 8 % 8)))], [.int (cI (d / 8 % 8)), .ref 40])) (h' := (sh0, σ)) rfl ?_
    refine px_W.cE (as := [.ref 40, .int (cI (d / 8 % 8))]) (st := []) (v := none) (σ' := (s40_over σ (d / 8 % 8))) rfl rfl rfl (t_over σ (k := d / 8 % 8) (by omega)) ?_
    refine px_W.run 3 (f' := (43, [some (.ref 40), some (.int s), some (.int (nI n)), some (.int w), some (.int (nI d)), some (.int ((cI i) + 1)), some (.int (nI (d % 8))), some (.int (cI (d / 8 % 8)))], [])) (h' := (sh0, (s40_over σ (d / 8 % 8)))) rfl ?_
    exact px_W.drop (loc := [some (.ref 40), some (.int s), some (.int (nI n)), some (.int w), some (.int (nI d)), some (.int (cI (i + 1))), none, none]) (by repeat' constructor) (hkB (by assumption))
theorem yM_make {L : Nat} {xs : Nat → Int32} {Q : Option Value → px_H → Prop} (σ : px_Sg) {n : Nat} (h60 : n < 1000) (s w : Int32) {dr d i : Nat} (hi : i < n) (hdr : dr < 65537) (hd : d = (75 * dr + 74) % 65537) (hd7 : d < 65537) (hj : 2 ≤ d % 8 ∧ d % 8 < 4) {r : Int32} (hT : px_E L xs mX3_whyNoAct [.ref 40, .int (cI (d / 8 % 8))] σ (some (.int r)) σ) (hkA : r = 0 → px_W L xs mX3_year (43, [some (.ref 40), some (.int s), some (.int (nI n)), some (.int w), some (.int (nI d)), some (.int (cI (i + 1))), none, none], []) (sh0, (s40_make σ (d / 8 % 8))) Q) (hkB : ¬ r = 0 → px_W L xs mX3_year (43, [some (.ref 40), some (.int s), some (.int (nI n)), some (.int w), some (.int (nI d)), some (.int (cI (i + 1))), none, none], []) (sh0, σ) Q) : px_W L xs mX3_year (43, [some (.ref 40), some (.int s), some (.int (nI n)), some (.int w), some (.int (nI dr)), some (.int (cI i)), none, none], []) (sh0, σ) Q := by
  refine px_W.run 2 (f' := (46, [some (.ref 40), some (.int s), some (.int (nI n)), some (.int w), some (.int (nI dr)), some (.int (cI i)), none, none], [.int (nI n), .int (cI i)])) (h' := (sh0, σ)) rfl ?_
  refine px_W.icmp_ge rfl (fun c1 => absurd c1 (nI_geC (by omega) hi)) (fun c1 => ?_)
  refine px_W.run 6 (f' := (59, [some (.ref 40), some (.int s), some (.int (nI n)), some (.int w), some (.int (nI dr)), some (.int (cI i)), none, none], [.int 65537, .int ((75 * (nI dr)) + 74)])) (h' := (sh0, σ)) rfl ?_
  refine px_W.irem rfl (by decide) ?_
  refine px_W.to (f' := (60, [some (.ref 40), some (.int s), some (.int (nI n)), some (.int w), some (.int (nI dr)), some (.int (cI i)), none, none], [.int (nI d)])) (h' := (sh0, σ)) (by rw [hd, ← yr_d hdr]) ?_
  refine px_W.run 3 (f' := (66, [some (.ref 40), some (.int s), some (.int (nI n)), some (.int w), some (.int (nI d)), some (.int (cI i)), none, none], [.int 8, .int (nI d)])) (h' := (sh0, σ)) rfl ?_
  refine px_W.irem rfl (by decide) ?_
  refine px_W.to (f' := (67, [some (.ref 40), some (.int s), some (.int (nI n)), some (.int w), some (.int (nI d)), some (.int (cI i)), none, none], [.int (nI (d % 8))])) (h' := (sh0, σ)) (by rw [← yr_r hd7]) ?_
  refine px_W.run 3 (f' := (73, [some (.ref 40), some (.int s), some (.int (nI n)), some (.int w), some (.int (nI d)), some (.int (cI i)), some (.int (nI (d % 8))), none], [.int 8, .int (nI d)])) (h' := (sh0, σ)) rfl ?_
  refine px_W.idiv rfl (by decide) ?_
  refine px_W.run 1 (f' := (76, [some (.ref 40), some (.int s), some (.int (nI n)), some (.int w), some (.int (nI d)), some (.int (cI i)), some (.int (nI (d % 8))), none], [.int 8, .int ((nI d) / 8)])) (h' := (sh0, σ)) rfl ?_
  refine px_W.irem rfl (by decide) ?_
  refine px_W.to (f' := (77, [some (.ref 40), some (.int s), some (.int (nI n)), some (.int w), some (.int (nI d)), some (.int (cI i)), some (.int (nI (d % 8))), none], [.int (cI (d / 8 % 8))])) (h' := (sh0, σ)) (by rw [← yr_q hd7]) ?_
  refine px_W.run 2 (f' := (81, [some (.ref 40), some (.int s), some (.int (nI n)), some (.int w), some (.int (nI d)), some (.int (cI i)), some (.int (nI (d % 8))), some (.int (cI (d / 8 % 8)))], [.int (nI (d % 8))])) (h' := (sh0, σ)) rfl ?_
  refine px_W.if_ne rfl (fun c2 => absurd c2 (fun z => absurd ((nI_eq (b := 0) (by omega) (by decide)).mp z) (by omega))) (fun c2 => ?_)
  refine px_W.run 2 (f' := (100, [some (.ref 40), some (.int s), some (.int (nI n)), some (.int w), some (.int (nI d)), some (.int (cI i)), some (.int (nI (d % 8))), some (.int (cI (d / 8 % 8)))], [.int 1, .int (nI (d % 8))])) (h' := (sh0, σ)) rfl ?_
  refine px_W.icmp_ne rfl (fun c3 => absurd c3 (fun z => absurd ((nI_eq (b := 1) (by omega) (by decide)).mp z) (by omega))) (fun c3 => ?_)
  refine px_W.run 2 (f' := (125, [some (.ref 40), some (.int s), some (.int (nI n)), some (.int w), some (.int (nI d)), some (.int (cI i)), some (.int (nI (d % 8))), some (.int (cI (d / 8 % 8)))], [.int 4, .int (nI (d % 8))])) (h' := (sh0, σ)) rfl ?_
  refine px_W.icmp_ge rfl (fun c4 => absurd c4 (nI_ge (b := 4) hj.2 (by decide))) (fun c4 => ?_)
  refine px_W.run 2 (f' := (131, [some (.ref 40), some (.int s), some (.int (nI n)), some (.int w), some (.int (nI d)), some (.int (cI i)), some (.int (nI (d % 8))), some (.int (cI (d / 8 % 8)))], [.int (cI (d / 8 % 8)), .ref 40])) (h' := (sh0, σ)) rfl ?_
  refine px_W.cE (as := [.ref 40, .int (cI (d / 8 % 8))]) (st := []) (v := some (.int r)) (σ' := σ) rfl rfl rfl (hT) ?_
  refine px_W.if_ne rfl (fun c5 => ?_) (fun c5 => ?_)
  · refine px_W.run 2 (f' := (140, [some (.ref 40), some (.int s), some (.int (nI n)), some (.int w), some (.int (nI d)), some (.int (cI i)), some (.int (nI (d % 8))), some (.int (cI (d / 8 % 8)))], [.int (cI (d / 8 % 8)), .ref 40])) (h' := (sh0, σ)) rfl ?_
    refine px_W.cE (as := [.ref 40, .int (cI (d / 8 % 8))]) (st := []) (v := none) (σ' := (s40_make σ (d / 8 % 8))) rfl rfl rfl (t_make σ) ?_
    refine px_W.run 3 (f' := (43, [some (.ref 40), some (.int s), some (.int (nI n)), some (.int w), some (.int (nI d)), some (.int ((cI i) + 1)), some (.int (nI (d % 8))), some (.int (cI (d / 8 % 8)))], [])) (h' := (sh0, (s40_make σ (d / 8 % 8)))) rfl ?_
    exact px_W.drop (loc := [some (.ref 40), some (.int s), some (.int (nI n)), some (.int w), some (.int (nI d)), some (.int (cI (i + 1))), none, none]) (by repeat' constructor) (hkA (by assumption))
  · refine px_W.run 2 (f' := (43, [some (.ref 40), some (.int s), some (.int (nI n)), some (.int w), some (.int (nI d)), some (.int ((cI i) + 1)), some (.int (nI (d % 8))), some (.int (cI (d / 8 % 8)))], [])) (h' := (sh0, σ)) rfl ?_
    exact px_W.drop (loc := [some (.ref 40), some (.int s), some (.int (nI n)), some (.int w), some (.int (nI d)), some (.int (cI (i + 1))), none, none]) (by repeat' constructor) (hkB (by assumption))
theorem yM_paint {L : Nat} {xs : Nat → Int32} {Q : Option Value → px_H → Prop} (σ : px_Sg) {n : Nat} (h60 : n < 1000) (s w : Int32) {dr d i : Nat} (hi : i < n) (hdr : dr < 65537) (hd : d = (75 * dr + 74) % 65537) (hd7 : d < 65537) (hj : 4 ≤ d % 8) {r : Int32} (hT : px_E L xs mX3_whyNoHour [.ref 40, .int (cI (d / 8 % 8))] σ (some (.int r)) σ) (hkA : r = 0 → px_W L xs mX3_year (43, [some (.ref 40), some (.int s), some (.int (nI n)), some (.int w), some (.int (nI d)), some (.int (cI (i + 1))), none, none], []) (sh0, (s40_paint σ (d / 8 % 8))) Q) (hkB : ¬ r = 0 → px_W L xs mX3_year (43, [some (.ref 40), some (.int s), some (.int (nI n)), some (.int w), some (.int (nI d)), some (.int (cI (i + 1))), none, none], []) (sh0, σ) Q) : px_W L xs mX3_year (43, [some (.ref 40), some (.int s), some (.int (nI n)), some (.int w), some (.int (nI dr)), some (.int (cI i)), none, none], []) (sh0, σ) Q := by
  refine px_W.run 2 (f' := (46, [some (.ref 40), some (.int s), some (.int (nI n)), some (.int w), some (.int (nI dr)), some (.int (cI i)), none, none], [.int (nI n), .int (cI i)])) (h' := (sh0, σ)) rfl ?_
  refine px_W.icmp_ge rfl (fun c1 => absurd c1 (nI_geC (by omega) hi)) (fun c1 => ?_)
  refine px_W.run 6 (f' := (59, [some (.ref 40), some (.int s), some (.int (nI n)), some (.int w), some (.int (nI dr)), some (.int (cI i)), none, none], [.int 65537, .int ((75 * (nI dr)) + 74)])) (h' := (sh0, σ)) rfl ?_
  refine px_W.irem rfl (by decide) ?_
  refine px_W.to (f' := (60, [some (.ref 40), some (.int s), some (.int (nI n)), some (.int w), some (.int (nI dr)), some (.int (cI i)), none, none], [.int (nI d)])) (h' := (sh0, σ)) (by rw [hd, ← yr_d hdr]) ?_
  refine px_W.run 3 (f' := (66, [some (.ref 40), some (.int s), some (.int (nI n)), some (.int w), some (.int (nI d)), some (.int (cI i)), none, none], [.int 8, .int (nI d)])) (h' := (sh0, σ)) rfl ?_
  refine px_W.irem rfl (by decide) ?_
  refine px_W.to (f' := (67, [some (.ref 40), some (.int s), some (.int (nI n)), some (.int w), some (.int (nI d)), some (.int (cI i)), none, none], [.int (nI (d % 8))])) (h' := (sh0, σ)) (by rw [← yr_r hd7]) ?_
  refine px_W.run 3 (f' := (73, [some (.ref 40), some (.int s), some (.int (nI n)), some (.int w), some (.int (nI d)), some (.int (cI i)), some (.int (nI (d % 8))), none], [.int 8, .int (nI d)])) (h' := (sh0, σ)) rfl ?_
  refine px_W.idiv rfl (by decide) ?_
  refine px_W.run 1 (f' := (76, [some (.ref 40), some (.int s), some (.int (nI n)), some (.int w), some (.int (nI d)), some (.int (cI i)), some (.int (nI (d % 8))), none], [.int 8, .int ((nI d) / 8)])) (h' := (sh0, σ)) rfl ?_
  refine px_W.irem rfl (by decide) ?_
  refine px_W.to (f' := (77, [some (.ref 40), some (.int s), some (.int (nI n)), some (.int w), some (.int (nI d)), some (.int (cI i)), some (.int (nI (d % 8))), none], [.int (cI (d / 8 % 8))])) (h' := (sh0, σ)) (by rw [← yr_q hd7]) ?_
  refine px_W.run 2 (f' := (81, [some (.ref 40), some (.int s), some (.int (nI n)), some (.int w), some (.int (nI d)), some (.int (cI i)), some (.int (nI (d % 8))), some (.int (cI (d / 8 % 8)))], [.int (nI (d % 8))])) (h' := (sh0, σ)) rfl ?_
  refine px_W.if_ne rfl (fun c2 => absurd c2 (fun z => absurd ((nI_eq (b := 0) (by omega) (by decide)).mp z) (by omega))) (fun c2 => ?_)
  refine px_W.run 2 (f' := (100, [some (.ref 40), some (.int s), some (.int (nI n)), some (.int w), some (.int (nI d)), some (.int (cI i)), some (.int (nI (d % 8))), some (.int (cI (d / 8 % 8)))], [.int 1, .int (nI (d % 8))])) (h' := (sh0, σ)) rfl ?_
  refine px_W.icmp_ne rfl (fun c3 => absurd c3 (fun z => absurd ((nI_eq (b := 1) (by omega) (by decide)).mp z) (by omega))) (fun c3 => ?_)
  refine px_W.run 2 (f' := (125, [some (.ref 40), some (.int s), some (.int (nI n)), some (.int w), some (.int (nI d)), some (.int (cI i)), some (.int (nI (d % 8))), some (.int (cI (d / 8 % 8)))], [.int 4, .int (nI (d % 8))])) (h' := (sh0, σ)) rfl ?_
  refine px_W.icmp_ge rfl (fun c4 => ?_) (fun c4 => absurd (nI_le (a := 4) hj (by omega)) c4)
  refine px_W.run 2 (f' := (149, [some (.ref 40), some (.int s), some (.int (nI n)), some (.int w), some (.int (nI d)), some (.int (cI i)), some (.int (nI (d % 8))), some (.int (cI (d / 8 % 8)))], [.int (cI (d / 8 % 8)), .ref 40])) (h' := (sh0, σ)) rfl ?_
  refine px_W.cE (as := [.ref 40, .int (cI (d / 8 % 8))]) (st := []) (v := some (.int r)) (σ' := σ) rfl rfl rfl (hT) ?_
  refine px_W.if_ne rfl (fun c5 => ?_) (fun c5 => ?_)
  · refine px_W.run 2 (f' := (158, [some (.ref 40), some (.int s), some (.int (nI n)), some (.int w), some (.int (nI d)), some (.int (cI i)), some (.int (nI (d % 8))), some (.int (cI (d / 8 % 8)))], [.int (cI (d / 8 % 8)), .ref 40])) (h' := (sh0, σ)) rfl ?_
    refine px_W.cE (as := [.ref 40, .int (cI (d / 8 % 8))]) (st := []) (v := none) (σ' := (s40_paint σ (d / 8 % 8))) rfl rfl rfl (t_paint σ (k := d / 8 % 8) (by omega)) ?_
    refine px_W.run 2 (f' := (43, [some (.ref 40), some (.int s), some (.int (nI n)), some (.int w), some (.int (nI d)), some (.int ((cI i) + 1)), some (.int (nI (d % 8))), some (.int (cI (d / 8 % 8)))], [])) (h' := (sh0, (s40_paint σ (d / 8 % 8)))) rfl ?_
    exact px_W.drop (loc := [some (.ref 40), some (.int s), some (.int (nI n)), some (.int w), some (.int (nI d)), some (.int (cI (i + 1))), none, none]) (by repeat' constructor) (hkA (by assumption))
  · refine px_W.run 2 (f' := (43, [some (.ref 40), some (.int s), some (.int (nI n)), some (.int w), some (.int (nI d)), some (.int ((cI i) + 1)), some (.int (nI (d % 8))), some (.int (cI (d / 8 % 8)))], [])) (h' := (sh0, σ)) rfl ?_
    exact px_W.drop (loc := [some (.ref 40), some (.int s), some (.int (nI n)), some (.int w), some (.int (nI d)), some (.int (cI (i + 1))), none, none]) (by repeat' constructor) (hkB (by assumption))
theorem yM_end0 {L : Nat} {xs : Nat → Int32} {Q : Option Value → px_H → Prop} (σ : px_Sg) {n : Nat} (h60 : n < 1000) (s x : Int32) (hq : Q (some (.int (σ 40 15))) (sh0, σ))  : px_W L xs mX3_year (43, [some (.ref 40), some (.int s), some (.int (nI n)), some (.int 0), some (.int x), some (.int (cI n)), none, none], []) (sh0, σ) Q := by
  refine px_W.run 2 (f' := (46, [some (.ref 40), some (.int s), some (.int (nI n)), some (.int 0), some (.int x), some (.int (cI n)), none, none], [.int (nI n), .int (cI n)])) (h' := (sh0, σ)) rfl ?_
  refine px_W.icmp_ge rfl (fun c1 => ?_) (fun c1 => absurd (ge_yes n (by omega)) c1)
  refine px_W.run 1 (f' := (168, [some (.ref 40), some (.int s), some (.int (nI n)), some (.int 0), some (.int x), some (.int (cI n)), none, none], [.int 0])) (h' := (sh0, σ)) rfl ?_
  refine px_W.if_ne rfl (fun c2 => ?_) (fun c2 => absurd (by decide) c2)
  refine px_W.run 3 (f' := (194, [some (.ref 40), some (.int s), some (.int (nI n)), some (.int 0), some (.int x), some (.int (cI n)), none, none], [.int (σ 40 15)])) (h' := (sh0, σ)) rfl ?_
  exact px_W.iret rfl rfl (hq)
theorem yM_end1 {L : Nat} {xs : Nat → Int32} {Q : Option Value → px_H → Prop} (σ : px_Sg) {n : Nat} (h60 : n < 1000) (s x : Int32) (hq : Q (some (.int (σ 40 17))) (sh0, σ))  : px_W L xs mX3_year (43, [some (.ref 40), some (.int s), some (.int (nI n)), some (.int 1), some (.int x), some (.int (cI n)), none, none], []) (sh0, σ) Q := by
  refine px_W.run 2 (f' := (46, [some (.ref 40), some (.int s), some (.int (nI n)), some (.int 1), some (.int x), some (.int (cI n)), none, none], [.int (nI n), .int (cI n)])) (h' := (sh0, σ)) rfl ?_
  refine px_W.icmp_ge rfl (fun c1 => ?_) (fun c1 => absurd (ge_yes n (by omega)) c1)
  refine px_W.run 1 (f' := (168, [some (.ref 40), some (.int s), some (.int (nI n)), some (.int 1), some (.int x), some (.int (cI n)), none, none], [.int 1])) (h' := (sh0, σ)) rfl ?_
  refine px_W.if_ne rfl (fun c2 => absurd c2 (by decide)) (fun c2 => ?_)
  refine px_W.run 2 (f' := (180, [some (.ref 40), some (.int s), some (.int (nI n)), some (.int 1), some (.int x), some (.int (cI n)), none, none], [.int 1, .int 1])) (h' := (sh0, σ)) rfl ?_
  refine px_W.icmp_ne rfl (fun c3 => ?_) (fun c3 => absurd (by decide) c3)
  refine px_W.run 3 (f' := (194, [some (.ref 40), some (.int s), some (.int (nI n)), some (.int 1), some (.int x), some (.int (cI n)), none, none], [.int (σ 40 17)])) (h' := (sh0, σ)) rfl ?_
  exact px_W.iret rfl rfl (hq)
theorem yM_end2 {L : Nat} {xs : Nat → Int32} {Q : Option Value → px_H → Prop} (σ : px_Sg) {n : Nat} (h60 : n < 1000) (s x : Int32) (hq : Q (some (.int (σ 40 16))) (sh0, σ))  : px_W L xs mX3_year (43, [some (.ref 40), some (.int s), some (.int (nI n)), some (.int 2), some (.int x), some (.int (cI n)), none, none], []) (sh0, σ) Q := by
  refine px_W.run 2 (f' := (46, [some (.ref 40), some (.int s), some (.int (nI n)), some (.int 2), some (.int x), some (.int (cI n)), none, none], [.int (nI n), .int (cI n)])) (h' := (sh0, σ)) rfl ?_
  refine px_W.icmp_ge rfl (fun c1 => ?_) (fun c1 => absurd (ge_yes n (by omega)) c1)
  refine px_W.run 1 (f' := (168, [some (.ref 40), some (.int s), some (.int (nI n)), some (.int 2), some (.int x), some (.int (cI n)), none, none], [.int 2])) (h' := (sh0, σ)) rfl ?_
  refine px_W.if_ne rfl (fun c2 => absurd c2 (by decide)) (fun c2 => ?_)
  refine px_W.run 2 (f' := (180, [some (.ref 40), some (.int s), some (.int (nI n)), some (.int 2), some (.int x), some (.int (cI n)), none, none], [.int 1, .int 2])) (h' := (sh0, σ)) rfl ?_
  refine px_W.icmp_ne rfl (fun c3 => absurd c3 (by decide)) (fun c3 => ?_)
  refine px_W.run 2 (f' := (194, [some (.ref 40), some (.int s), some (.int (nI n)), some (.int 2), some (.int x), some (.int (cI n)), none, none], [.int (σ 40 16)])) (h' := (sh0, σ)) rfl ?_
  exact px_W.iret rfl rfl (hq)
theorem tM_year0 {L : Nat} {xs : Nat → Int32} (σ : px_Sg) (p q w : Int32) (hv : (iB p 0 9999 && iB q 1 99 && iB w 0 2) = false) : px_E L xs mX3_year [.ref 40, .int p, .int q, .int w] σ (some (.int (-2))) σ := by
  show px_W L xs mX3_year (0, [some (.ref 40), some (.int p), some (.int q), some (.int w), none, none, none, none], []) (sh0, σ) _
  refine px_W.run 3 (f' := (5, [some (.ref 40), some (.int p), some (.int q), some (.int w), none, none, none, none], [.int 9999, .int 0, .int p])) (h' := (sh0, σ)) rfl ?_
  refine px_W.cE (as := [.int p, .int 0, .int 9999]) (st := []) (v := some (.int (bo (iB p 0 9999)))) (σ' := σ) rfl rfl rfl (t_in σ p 0 9999) ?_
  refine px_W.if_eq rfl (fun g1 => ?_) (fun g1 => ?_)
  · refine px_W.run 1 (f' := (32, [some (.ref 40), some (.int p), some (.int q), some (.int w), none, none, none, none], [.int ((-2))])) (h' := (sh0, σ)) rfl ?_
    exact px_W.iret rfl rfl ⟨rfl, rfl⟩
  · refine px_W.run 3 (f' := (15, [some (.ref 40), some (.int p), some (.int q), some (.int w), none, none, none, none], [.int 99, .int 1, .int q])) (h' := (sh0, σ)) rfl ?_
    refine px_W.cE (as := [.int q, .int 1, .int 99]) (st := []) (v := some (.int (bo (iB q 1 99)))) (σ' := σ) rfl rfl rfl (t_in σ q 1 99) ?_
    refine px_W.if_eq rfl (fun g2 => ?_) (fun g2 => ?_)
    · refine px_W.run 1 (f' := (32, [some (.ref 40), some (.int p), some (.int q), some (.int w), none, none, none, none], [.int ((-2))])) (h' := (sh0, σ)) rfl ?_
      exact px_W.iret rfl rfl ⟨rfl, rfl⟩
    · refine px_W.run 3 (f' := (24, [some (.ref 40), some (.int p), some (.int q), some (.int w), none, none, none, none], [.int 2, .int 0, .int w])) (h' := (sh0, σ)) rfl ?_
      refine px_W.cE (as := [.int w, .int 0, .int 2]) (st := []) (v := some (.int (bo (iB w 0 2)))) (σ' := σ) rfl rfl rfl (t_in σ w 0 2) ?_
      refine px_W.if_ne rfl (fun g3 => ?_) (fun g3 => ?_)
      · refine px_W.run 1 (f' := (32, [some (.ref 40), some (.int p), some (.int q), some (.int w), none, none, none, none], [.int ((-2))])) (h' := (sh0, σ)) rfl ?_
        exact px_W.iret rfl rfl ⟨rfl, rfl⟩
      · exact absurd hv (by rw [bo_n0.mp g1, bo_n0.mp g2, bo_n0.mp g3]; decide)
theorem yr_B {p q w : Int32} (h : (iB p 0 9999 && iB q 1 99 && iB w 0 2) = true) : iB p 0 9999 = true ∧ iB q 1 99 = true ∧ iB w 0 2 = true := by
  simp only [Bool.and_eq_true] at h; exact ⟨h.1.1, h.1.2, h.2⟩
theorem yM_0 {L : Nat} {xs : Nat → Int32} {Q : Option Value → px_H → Prop} (σ : px_Sg) (p q w : Int32) (hv : (iB p 0 9999 && iB q 1 99 && iB w 0 2) = true) (hk : px_W L xs mX3_year (43, [some (.ref 40), some (.int p), some (.int q), some (.int w), some (.int p), some (.int 0), none, none], []) (sh0, (s_asNow σ)) Q) : px_W L xs mX3_year (0, [some (.ref 40), some (.int p), some (.int q), some (.int w), none, none, none, none], []) (sh0, σ) Q := by
  refine px_W.run 3 (f' := (5, [some (.ref 40), some (.int p), some (.int q), some (.int w), none, none, none, none], [.int 9999, .int 0, .int p])) (h' := (sh0, σ)) rfl ?_
  refine px_W.cE (as := [.int p, .int 0, .int 9999]) (st := []) (v := some (.int (bo (iB p 0 9999)))) (σ' := σ) rfl rfl rfl (t_in σ p 0 9999) ?_
  refine px_W.if_eq rfl (fun c1 => absurd c1 (by rw [(yr_B hv).1]; decide)) (fun c1 => ?_)
  refine px_W.run 3 (f' := (15, [some (.ref 40), some (.int p), some (.int q), some (.int w), none, none, none, none], [.int 99, .int 1, .int q])) (h' := (sh0, σ)) rfl ?_
  refine px_W.cE (as := [.int q, .int 1, .int 99]) (st := []) (v := some (.int (bo (iB q 1 99)))) (σ' := σ) rfl rfl rfl (t_in σ q 1 99) ?_
  refine px_W.if_eq rfl (fun c2 => absurd c2 (by rw [(yr_B hv).2.1]; decide)) (fun c2 => ?_)
  refine px_W.run 3 (f' := (24, [some (.ref 40), some (.int p), some (.int q), some (.int w), none, none, none, none], [.int 2, .int 0, .int w])) (h' := (sh0, σ)) rfl ?_
  refine px_W.cE (as := [.int w, .int 0, .int 2]) (st := []) (v := some (.int (bo (iB w 0 2)))) (σ' := σ) rfl rfl rfl (t_in σ w 0 2) ?_
  refine px_W.if_ne rfl (fun c3 => absurd c3 (by rw [(yr_B hv).2.2]; decide)) (fun c3 => ?_)
  refine px_W.run 1 (f' := (34, [some (.ref 40), some (.int p), some (.int q), some (.int w), none, none, none, none], [.ref 40])) (h' := (sh0, σ)) rfl ?_
  refine px_W.cE (as := [.ref 40]) (st := []) (v := none) (σ' := (s_asNow σ)) rfl rfl rfl (t_asNow σ) ?_
  refine px_W.run 4 (f' := (43, [some (.ref 40), some (.int p), some (.int q), some (.int w), some (.int p), some (.int 0), none, none], [])) (h' := (sh0, (s_asNow σ))) rfl ?_
  exact hk
