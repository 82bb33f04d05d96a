theorem try_end {L : Nat} {xs : Nat → Int32} {Q : Option Value → px_H → Prop} (σ : px_Sg) {i n : Nat} (hn : σ 37 1 = nI n) (h60 : n ≤ 60) (b : Int32) (hq : Q none (sh0, σ))  : px_W L xs mX2_tryReign (50, [some (.ref 0), some (.int b), some (.int (cI n)), none], []) (sh0, σ) Q := by
  refine px_W.run 4 (f' := (58, [some (.ref 0), some (.int b), some (.int (cI n)), none], [.int (σ 37 1), .int (cI n)])) (h' := (sh0, σ)) rfl ?_
  refine px_W.icmp_ge rfl (fun c1 => ?_) (fun c1 => absurd (ge_yesN hn (by omega)) c1)
  exact px_W.vret rfl rfl (hq)
theorem try_over {L : Nat} {xs : Nat → Int32} {Q : Option Value → px_H → Prop} (σ : px_Sg) {i n : Nat} (hn : σ 37 1 = nI n) (h60 : n ≤ 60) (hi : i < n) (b : Int32) (h2 : kd (σ 38 i) = 2) (hk : px_W L xs mX2_tryReign (50, [some (.ref 0), some (.int 1), some (.int (cI (i + 1))), none], []) (sh0, σ) Q) : px_W L xs mX2_tryReign (50, [some (.ref 0), some (.int b), some (.int (cI i)), none], []) (sh0, σ) Q := by
  refine px_W.run 4 (f' := (58, [some (.ref 0), some (.int b), some (.int (cI i)), none], [.int (σ 37 1), .int (cI i)])) (h' := (sh0, σ)) rfl ?_
  refine px_W.icmp_ge rfl (fun c1 => absurd c1 (ge_noN hn hi (by omega))) (fun c1 => ?_)
  refine px_W.run 3 (f' := (66, [some (.ref 0), some (.int b), some (.int (cI i)), none], [.int (cI i), .ref 37])) (h' := (sh0, σ)) rfl ?_
  refine px_W.cE (as := [.ref 37, .int (cI i)]) (st := []) (v := some (.int (σ 38 i))) (σ' := σ) rfl rfl rfl (t_signAt σ hn h60 hi) ?_
  refine px_W.cE (as := [.int (σ 38 i)]) (st := []) (v := some (.int (kd (σ 38 i)))) (σ' := σ) rfl rfl rfl (t_kindOf σ (σ 38 i)) ?_
  refine px_W.run 3 (f' := (75, [some (.ref 0), some (.int b), some (.int (cI i)), some (.int (kd (σ 38 i)))], [.int 2, .int (kd (σ 38 i))])) (h' := (sh0, σ)) rfl ?_
  refine px_W.icmp_ne rfl (fun c2 => ?_) (fun c2 => absurd (h2) c2)
  refine px_W.run 5 (f' := (50, [some (.ref 0), some (.int 1), some (.int ((cI i) + 1)), some (.int (kd (σ 38 i)))], [])) (h' := (sh0, σ)) rfl ?_
  exact px_W.drop (loc := [some (.ref 0), some (.int 1), some (.int (cI (i + 1))), none]) (by repeat' constructor) (hk)
theorem try_w {L : Nat} {xs : Nat → Int32} {Q : Option Value → px_H → Prop} (σ : px_Sg) {i n : Nat} (hn : σ 37 1 = nI n) (h60 : n ≤ 60) (hi : i < n) (h2 : ¬ kd (σ 38 i) = 2) {r : Int32} {σ1 : px_Sg} (hT : px_E L xs mX1_takeIfItCanBe [.ref 10, .int (2), .int (nb (σ 38 i))] σ (some (.int r)) σ1) (hA : r = 0 → px_W L xs mX2_tryReign (50, [some (.ref 0), some (.int 0), some (.int (cI (i + 1))), none], []) (sh0, (px_up (px_up σ1 0 (upd (σ1 0) 8 r)) 0 (upd (upd (σ1 0) 8 r) 9 ((σ1 0 9) + 1)))) Q) (hB : ¬ r = 0 → Q none (sh0, (px_up σ1 0 (upd (σ1 0) 8 r)))) : px_W L xs mX2_tryReign (50, [some (.ref 0), some (.int 1), some (.int (cI i)), none], []) (sh0, σ) Q := by
  refine px_W.run 4 (f' := (58, [some (.ref 0), some (.int 1), some (.int (cI i)), none], [.int (σ 37 1), .int (cI i)])) (h' := (sh0, σ)) rfl ?_
  refine px_W.icmp_ge rfl (fun c1 => absurd c1 (ge_noN hn hi (by omega))) (fun c1 => ?_)
  refine px_W.run 3 (f' := (66, [some (.ref 0), some (.int 1), some (.int (cI i)), none], [.int (cI i), .ref 37])) (h' := (sh0, σ)) rfl ?_
  refine px_W.cE (as := [.ref 37, .int (cI i)]) (st := []) (v := some (.int (σ 38 i))) (σ' := σ) rfl rfl rfl (t_signAt σ hn h60 hi) ?_
  refine px_W.cE (as := [.int (σ 38 i)]) (st := []) (v := some (.int (kd (σ 38 i)))) (σ' := σ) rfl rfl rfl (t_kindOf σ (σ 38 i)) ?_
  refine px_W.run 3 (f' := (75, [some (.ref 0), some (.int 1), some (.int (cI i)), some (.int (kd (σ 38 i)))], [.int 2, .int (kd (σ 38 i))])) (h' := (sh0, σ)) rfl ?_
  refine px_W.icmp_ne rfl (fun c2 => absurd c2 (h2)) (fun c2 => ?_)
  refine px_W.run 4 (f' := (89, [some (.ref 0), some (.int 1), some (.int (cI i)), some (.int (kd (σ 38 i)))], [.int 1, .ref 10, .ref 0])) (h' := (sh0, σ)) rfl ?_
  refine px_W.if_eq rfl (fun c3 => absurd c3 (by decide)) (fun c3 => ?_)
  refine px_W.run 5 (f' := (102, [some (.ref 0), some (.int 1), some (.int (cI i)), some (.int (kd (σ 38 i)))], [.int (cI i), .ref 37, .int 2, .ref 10, .ref 0])) (h' := (sh0, σ)) rfl ?_
  refine px_W.cE (as := [.ref 37, .int (cI i)]) (st := [.int 2, .ref 10, .ref 0]) (v := some (.int (σ 38 i))) (σ' := σ) rfl rfl rfl (t_signAt σ hn h60 hi) ?_
  refine px_W.cE (as := [.int (σ 38 i)]) (st := [.int 2, .ref 10, .ref 0]) (v := some (.int (nb (σ 38 i)))) (σ' := σ) rfl rfl rfl (t_numberOf σ (σ 38 i)) ?_
  refine px_W.cE (as := [.ref 10, .int 2, .int (nb (σ 38 i))]) (st := [.ref 0]) (v := some (.int r)) (σ' := σ1) rfl rfl rfl (hT) ?_
  refine px_W.puti rfl rfl ?_
  refine px_W.run 2 (f' := (118, [some (.ref 0), some (.int 1), some (.int (cI i)), some (.int (kd (σ 38 i)))], [.int r])) (h' := (sh0, (px_up σ1 0 (upd (σ1 0) 8 r)))) rfl ?_
  refine px_W.if_eq rfl (fun c4 => ?_) (fun c4 => ?_)
  · refine px_W.run 7 (f' := (131, [some (.ref 0), some (.int 0), some (.int (cI i)), some (.int (kd (σ 38 i)))], [.int ((σ1 0 9) + 1), .ref 0])) (h' := (sh0, (px_up σ1 0 (upd (σ1 0) 8 r)))) rfl ?_
    refine px_W.puti rfl rfl ?_
    refine px_W.run 2 (f' := (50, [some (.ref 0), some (.int 0), some (.int ((cI i) + 1)), some (.int (kd (σ 38 i)))], [])) (h' := (sh0, (px_up (px_up σ1 0 (upd (σ1 0) 8 r)) 0 (upd (upd (σ1 0) 8 r) 9 ((σ1 0 9) + 1))))) rfl ?_
    exact px_W.drop (loc := [some (.ref 0), some (.int 0), some (.int (cI (i + 1))), none]) (by repeat' constructor) (hA (by assumption))
  · exact px_W.vret rfl rfl (hB (by assumption))
theorem try_n {L : Nat} {xs : Nat → Int32} {Q : Option Value → px_H → Prop} (σ : px_Sg) {i n : Nat} (hn : σ 37 1 = nI n) (h60 : n ≤ 60) (hi : i < n) (h2 : ¬ kd (σ 38 i) = 2) {r : Int32} {σ1 : px_Sg} (hT : px_E L xs mX1_takeIfItCanBe [.ref 10, .int (kd (σ 38 i)), .int (nb (σ 38 i))] σ (some (.int r)) σ1) (hA : r = 0 → px_W L xs mX2_tryReign (50, [some (.ref 0), some (.int 0), some (.int (cI (i + 1))), none], []) (sh0, (px_up (px_up σ1 0 (upd (σ1 0) 8 r)) 0 (upd (upd (σ1 0) 8 r) 9 ((σ1 0 9) + 1)))) Q) (hB : ¬ r = 0 → Q none (sh0, (px_up σ1 0 (upd (σ1 0) 8 r)))) : px_W L xs mX2_tryReign (50, [some (.ref 0), some (.int 0), some (.int (cI i)), none], []) (sh0, σ) Q := by
  refine px_W.run 4 (f' := (58, [some (.ref 0), some (.int 0), some (.int (cI i)), none], [.int (σ 37 1), .int (cI i)])) (h' := (sh0, σ)) rfl ?_
  refine px_W.icmp_ge rfl (fun c1 => absurd c1 (ge_noN hn hi (by omega))) (fun c1 => ?_)
  refine px_W.run 3 (f' := (66, [some (.ref 0), some (.int 0), some (.int (cI i)), none], [.int (cI i), .ref 37])) (h' := (sh0, σ)) rfl ?_
  refine px_W.cE (as := [.ref 37, .int (cI i)]) (st := []) (v := some (.int (σ 38 i))) (σ' := σ) rfl rfl rfl (t_signAt σ hn h60 hi) ?_
  refine px_W.cE (as := [.int (σ 38 i)]) (st := []) (v := some (.int (kd (σ 38 i)))) (σ' := σ) rfl rfl rfl (t_kindOf σ (σ 38 i)) ?_
  refine px_W.run 3 (f' := (75, [some (.ref 0), some (.int 0), some (.int (cI i)), some (.int (kd (σ 38 i)))], [.int 2, .int (kd (σ 38 i))])) (h' := (sh0, σ)) rfl ?_
  refine px_W.icmp_ne rfl (fun c2 => absurd c2 (h2)) (fun c2 => ?_)
  refine px_W.run 4 (f' := (89, [some (.ref 0), some (.int 0), some (.int (cI i)), some (.int (kd (σ 38 i)))], [.int 0, .ref 10, .ref 0])) (h' := (sh0, σ)) rfl ?_
  refine px_W.if_eq rfl (fun c3 => ?_) (fun c3 => absurd (by decide) c3)
  refine px_W.run 4 (f' := (102, [some (.ref 0), some (.int 0), some (.int (cI i)), some (.int (kd (σ 38 i)))], [.int (cI i), .ref 37, .int (kd (σ 38 i)), .ref 10, .ref 0])) (h' := (sh0, σ)) rfl ?_
  refine px_W.cE (as := [.ref 37, .int (cI i)]) (st := [.int (kd (σ 38 i)), .ref 10, .ref 0]) (v := some (.int (σ 38 i))) (σ' := σ) rfl rfl rfl (t_signAt σ hn h60 hi) ?_
  refine px_W.cE (as := [.int (σ 38 i)]) (st := [.int (kd (σ 38 i)), .ref 10, .ref 0]) (v := some (.int (nb (σ 38 i)))) (σ' := σ) rfl rfl rfl (t_numberOf σ (σ 38 i)) ?_
  refine px_W.cE (as := [.ref 10, .int (kd (σ 38 i)), .int (nb (σ 38 i))]) (st := [.ref 0]) (v := some (.int r)) (σ' := σ1) rfl rfl rfl (hT) ?_
  refine px_W.puti rfl rfl ?_
  refine px_W.run 2 (f' := (118, [some (.ref 0), some (.int 0), some (.int (cI i)), some (.int (kd (σ 38 i)))], [.int r])) (h' := (sh0, (px_up σ1 0 (upd (σ1 0) 8 r)))) rfl ?_
  refine px_W.if_eq rfl (fun c4 => ?_) (fun c4 => ?_)
  · refine px_W.run 7 (f' := (131, [some (.ref 0), some (.int 0), some (.int (cI i)), some (.int (kd (σ 38 i)))], [.int ((σ1 0 9) + 1), .ref 0])) (h' := (sh0, (px_up σ1 0 (upd (σ1 0) 8 r)))) rfl ?_
    refine px_W.puti rfl rfl ?_
    refine px_W.run 2 (f' := (50, [some (.ref 0), some (.int 0), some (.int ((cI i) + 1)), some (.int (kd (σ 38 i)))], [])) (h' := (sh0, (px_up (px_up σ1 0 (upd (σ1 0) 8 r)) 0 (upd (upd (σ1 0) 8 r) 9 ((σ1 0 9) + 1))))) rfl ?_
    exact px_W.drop (loc := [some (.ref 0), some (.int 0), some (.int (cI (i + 1))), none]) (by repeat' constructor) (hA (by assumption))
  · exact px_W.vret rfl rfl (hB (by assumption))
theorem go_end {L : Nat} {xs : Nat → Int32} {Q : Option Value → px_H → Prop} (σ : px_Sg) {i n : Nat} (hn : σ 40 10 = nI n) (h60 : n ≤ 60) (hq : Q (some (.int (-6))) (sh0, σ))  : px_W L xs mX3_goReign (11, [some (.ref 40), some (.int (cI n)), none], []) (sh0, σ) Q := by
  refine px_W.run 3 (f' := (16, [some (.ref 40), some (.int (cI n)), none], [.int (σ 40 10), .int (cI n)])) (h' := (sh0, σ)) rfl ?_
  refine px_W.icmp_ge rfl (fun c1 => ?_) (fun c1 => absurd (ge_yesN hn (by omega)) c1)
  refine px_W.run 1 (f' := (202, [some (.ref 40), some (.int (cI n)), none], [.int ((-6))])) (h' := (sh0, σ)) rfl ?_
  exact px_W.iret rfl rfl (hq)
theorem go_sit {L : Nat} {xs : Nat → Int32} {Q : Option Value → px_H → Prop} (σ : px_Sg) {i n : Nat} (hn : σ 40 10 = nI n) (h60 : n ≤ 60) (hi : i < n) (hx : σ 48 i = 115) (hk1 : px_W L xs mX3_goReign (11, [some (.ref 40), some (.int (cI (i + 1))), none], []) (sh0, (px_up (px_up (px_up σ 40 (upd (σ 40) 18 0)) 40 (upd (upd (σ 40) 18 0) 14 (1 - (σ 40 14)))) 40 (upd (upd (upd (σ 40) 18 0) 14 (1 - (σ 40 14))) 19 ((σ 40 19) + 1)))) Q) : px_W L xs mX3_goReign (11, [some (.ref 40), some (.int (cI i)), none], []) (sh0, σ) Q := by
  refine px_W.run 3 (f' := (16, [some (.ref 40), some (.int (cI i)), none], [.int (σ 40 10), .int (cI i)])) (h' := (sh0, σ)) rfl ?_
  refine px_W.icmp_ge rfl (fun c1 => absurd c1 (ge_noN hn hi (by omega))) (fun c1 => ?_)
  refine px_W.run 3 (f' := (24, [some (.ref 40), some (.int (cI i)), none], [.int (cI i), .ref 48])) (h' := (sh0, σ)) rfl ?_
  refine px_W.iald rfl rfl (i := i) (cI_n _) (by omega) (by decide) ?_
  refine px_W.run 3 (f' := (29, [some (.ref 40), some (.int (cI i)), some (.int (σ 48 i))], [.int 115, .int (σ 48 i)])) (h' := (sh0, σ)) rfl ?_
  refine px_W.icmp_ne rfl (fun c2 => ?_) (fun c2 => absurd (hx) c2)
  refine px_W.run 2 (f' := (34, [some (.ref 40), some (.int (cI i)), some (.int (σ 48 i))], [.int 0, .ref 40])) (h' := (sh0, σ)) rfl ?_
  refine px_W.puti rfl rfl ?_
  refine px_W.run 5 (f' := (44, [some (.ref 40), some (.int (cI i)), some (.int (σ 48 i))], [.int (1 - (σ 40 14)), .ref 40])) (h' := (sh0, (px_up σ 40 (upd (σ 40) 18 0)))) rfl ?_
  refine px_W.puti rfl rfl ?_
  refine px_W.run 3 (f' := (176, [some (.ref 40), some (.int (cI i)), some (.int (σ 48 i))], [.int 0])) (h' := (sh0, (px_up (px_up σ 40 (upd (σ 40) 18 0)) 40 (upd (upd (σ 40) 18 0) 14 (1 - (σ 40 14)))))) rfl ?_
  refine px_W.if_le rfl (fun c3 => ?_) (fun c3 => absurd (by decide) c3)
  refine px_W.run 6 (f' := (194, [some (.ref 40), some (.int ((cI i) + 1)), some (.int (σ 48 i))], [.int ((σ 40 19) + 1), .ref 40])) (h' := (sh0, (px_up (px_up σ 40 (upd (σ 40) 18 0)) 40 (upd (upd (σ 40) 18 0) 14 (1 - (σ 40 14)))))) rfl ?_
  refine px_W.puti rfl rfl ?_
  refine px_W.run 1 (f' := (11, [some (.ref 40), some (.int ((cI i) + 1)), some (.int (σ 48 i))], [])) (h' := (sh0, (px_up (px_up (px_up σ 40 (upd (σ 40) 18 0)) 40 (upd (upd (σ 40) 18 0) 14 (1 - (σ 40 14)))) 40 (upd (upd (upd (σ 40) 18 0) 14 (1 - (σ 40 14))) 19 ((σ 40 19) + 1))))) rfl ?_
  exact px_W.drop (loc := [some (.ref 40), some (.int (cI (i + 1))), none]) (by repeat' constructor) (hk1)
theorem r18_p {σ : px_Sg} {k : Nat} {r : Int32} (h : r = 0) : s40_paint (px_up σ 40 (upd (σ 40) 18 r)) k 40 18 ≤ 0 := by
  subst h; simp [s40_paint, px_up, upd]
theorem r18_m {σ : px_Sg} {k : Nat} {r : Int32} (h : r = 0) : s40_make (px_up σ 40 (upd (σ 40) 18 r)) k 40 18 ≤ 0 := by
  subst h; simp [s40_make, px_up, upd]
theorem over_18 (σ : px_Sg) (k : Nat) : s40_over (px_up σ 40 (upd (σ 40) 18 0)) k 40 18 ≤ 0 := by
  unfold s40_over
  split
  · simp [s40_over2, s40_over1, px_up, upd]
  · simp [s40_over1, px_up, upd]
theorem go_over {L : Nat} {xs : Nat → Int32} {Q : Option Value → px_H → Prop} (σ : px_Sg) {i n : Nat} (hn : σ 40 10 = nI n) (h60 : n ≤ 60) (hi : i < n) (hx : σ 48 i = 47) (hi1 : i + 1 < n) {k : Nat} (hkk : k < 8) (hy : σ 48 (i + 1) - 97 = cI k) (hA : ¬ σ 49 k = 0 → px_W L xs mX3_goReign (11, [some (.ref 40), some (.int (cI (i + 1 + 1))), none], []) (sh0, (px_up (s40_over (px_up σ 40 (upd (σ 40) 18 0)) k) 40 (upd ((s40_over (px_up σ 40 (upd (σ 40) 18 0)) k) 40) 19 ((((s40_over (px_up σ 40 (upd (σ 40) 18 0)) k) 40) 19) + 1)))) Q) (hB : σ 49 k = 0 → Q (some (.int (σ 40 19))) (sh0, (px_up σ 40 (upd (σ 40) 18 4)))) : px_W L xs mX3_goReign (11, [some (.ref 40), some (.int (cI i)), none], []) (sh0, σ) Q := by
  refine px_W.run 3 (f' := (16, [some (.ref 40), some (.int (cI i)), none], [.int (σ 40 10), .int (cI i)])) (h' := (sh0, σ)) rfl ?_
  refine px_W.icmp_ge rfl (fun c1 => absurd c1 (ge_noN hn hi (by omega))) (fun c1 => ?_)
  refine px_W.run 3 (f' := (24, [some (.ref 40), some (.int (cI i)), none], [.int (cI i), .ref 48])) (h' := (sh0, σ)) rfl ?_
  refine px_W.iald rfl rfl (i := i) (cI_n _) (by omega) (by decide) ?_
  refine px_W.run 3 (f' := (29, [some (.ref 40), some (.int (cI i)), some (.int (σ 48 i))], [.int 115, .int (σ 48 i)])) (h' := (sh0, σ)) rfl ?_
  refine px_W.icmp_ne rfl (fun c2 => absurd c2 (by rw [hx]; decide)) (fun c2 => ?_)
  refine px_W.run 2 (f' := (53, [some (.ref 40), some (.int (cI i)), some (.int (σ 48 i))], [.int 47, .int (σ 48 i)])) (h' := (sh0, σ)) rfl ?_
  refine px_W.icmp_ne rfl (fun c3 => ?_) (fun c3 => absurd (hx) c3)
  refine px_W.run 7 (f' := (69, [some (.ref 40), some (.int ((cI i) + 1)), some (.int (σ 48 i))], [.int ((cI i) + 1), .ref 48, .ref 49, .ref 40])) (h' := (sh0, σ)) rfl ?_
  refine px_W.iald rfl rfl (i := i + 1) (cI_n (i + 1)) (by omega) (by decide) ?_
  refine px_W.run 2 (f' := (73, [some (.ref 40), some (.int ((cI i) + 1)), some (.int (σ 48 i))], [.int ((σ 48 (i + 1)) - 97), .ref 49, .ref 40])) (h' := (sh0, σ)) rfl ?_
  refine px_W.iald rfl rfl (i := k) (hy.trans (cI_n k)) (hkk) (by decide) ?_
  refine px_W.if_ne rfl (fun c4 => ?_) (fun c4 => ?_)
  · refine px_W.run 2 (f' := (82, [some (.ref 40), some (.int ((cI i) + 1)), some (.int (σ 48 i))], [.int 4, .ref 40])) (h' := (sh0, σ)) rfl ?_
    refine px_W.puti rfl rfl ?_
    refine px_W.run 2 (f' := (89, [some (.ref 40), some (.int ((cI i) + 1)), some (.int (σ 48 i))], [.int 4])) (h' := (sh0, (px_up σ 40 (upd (σ 40) 18 4)))) rfl ?_
    refine px_W.if_ne rfl (fun c5 => absurd c5 (by decide)) (fun c5 => ?_)
    refine px_W.run 2 (f' := (176, [some (.ref 40), some (.int ((cI i) + 1)), some (.int (σ 48 i))], [.int 4])) (h' := (sh0, (px_up σ 40 (upd (σ 40) 18 4)))) rfl ?_
    refine px_W.if_le rfl (fun c6 => absurd c6 (by decide)) (fun c6 => ?_)
    refine px_W.run 2 (f' := (183, [some (.ref 40), some (.int ((cI i) + 1)), some (.int (σ 48 i))], [.int (σ 40 19)])) (h' := (sh0, (px_up σ 40 (upd (σ 40) 18 4)))) rfl ?_
    exact px_W.iret rfl rfl (hB (by assumption))
  · refine px_W.run 1 (f' := (82, [some (.ref 40), some (.int ((cI i) + 1)), some (.int (σ 48 i))], [.int 0, .ref 40])) (h' := (sh0, σ)) rfl ?_
    refine px_W.puti rfl rfl ?_
    refine px_W.run 2 (f' := (89, [some (.ref 40), some (.int ((cI i) + 1)), some (.int (σ 48 i))], [.int 0])) (h' := (sh0, (px_up σ 40 (upd (σ 40) 18 0)))) rfl ?_
    refine px_W.if_ne rfl (fun c7 => ?_) (fun c7 => absurd (by decide) c7)
    refine px_W.run 4 (f' := (98, [some (.ref 40), some (.int ((cI i) + 1)), some (.int (σ 48 i))], [.int ((cI i) + 1), .ref 48, .ref 40])) (h' := (sh0, (px_up σ 40 (upd (σ 40) 18 0)))) rfl ?_
    refine px_W.iald rfl rfl (i := i + 1) (cI_n (i + 1)) (by omega) (by decide) ?_
    refine px_W.run 2 (f' := (102, [some (.ref 40), some (.int ((cI i) + 1)), some (.int (σ 48 i))], [.int ((σ 48 (i + 1)) - 97), .ref 40])) (h' := (sh0, (px_up σ 40 (upd (σ 40) 18 0)))) rfl ?_
    refine px_W.to (f' := (102, [some (.ref 40), some (.int ((cI i) + 1)), some (.int (σ 48 i))], [.int (cI k), .ref 40])) (h' := (sh0, (px_up σ 40 (upd (σ 40) 18 0)))) (by rw [← hy]) ?_
    refine px_W.cE (as := [.ref 40, .int (cI k)]) (st := []) (v := none) (σ' := (s40_over (px_up σ 40 (upd (σ 40) 18 0)) k)) rfl rfl rfl (t_over (px_up σ 40 (upd (σ 40) 18 0)) hkk) ?_
    refine px_W.run 3 (f' := (176, [some (.ref 40), some (.int ((cI i) + 1)), some (.int (σ 48 i))], [.int (((s40_over (px_up σ 40 (upd (σ 40) 18 0)) k) 40) 18)])) (h' := (sh0, (s40_over (px_up σ 40 (upd (σ 40) 18 0)) k))) rfl ?_
    refine px_W.if_le rfl (fun c8 => ?_) (fun c8 => absurd (over_18 _ _) c8)
    refine px_W.run 6 (f' := (194, [some (.ref 40), some (.int (((cI i) + 1) + 1)), some (.int (σ 48 i))], [.int ((((s40_over (px_up σ 40 (upd (σ 40) 18 0)) k) 40) 19) + 1), .ref 40])) (h' := (sh0, (s40_over (px_up σ 40 (upd (σ 40) 18 0)) k))) rfl ?_
    refine px_W.puti rfl rfl ?_
    refine px_W.run 1 (f' := (11, [some (.ref 40), some (.int (((cI i) + 1) + 1)), some (.int (σ 48 i))], [])) (h' := (sh0, (px_up (s40_over (px_up σ 40 (upd (σ 40) 18 0)) k) 40 (upd ((s40_over (px_up σ 40 (upd (σ 40) 18 0)) k) 40) 19 ((((s40_over (px_up σ 40 (upd (σ 40) 18 0)) k) 40) 19) + 1))))) rfl ?_
    exact px_W.drop (loc := [some (.ref 40), some (.int (cI (i + 1 + 1))), none]) (by repeat' constructor) (hA (by assumption))
theorem go_paint {L : Nat} {xs : Nat → Int32} {Q : Option Value → px_H → Prop} (σ : px_Sg) {i n : Nat} (hn : σ 40 10 = nI n) (h60 : n ≤ 60) (hi : i < n) (hx : iB (σ 48 i) 97 104 = true) {k : Nat} (hkk : k < 8) (hy : σ 48 i - 97 = cI k) {r : Int32} (hT : px_E L xs mX3_whyNoHour [.ref 40, .int (cI k)] σ (some (.int r)) σ) (hr : ¬ r = 0 → ¬ r ≤ 0) (hA : r = 0 → px_W L xs mX3_goReign (11, [some (.ref 40), some (.int (cI (i + 1))), none], []) (sh0, (px_up (s40_paint (px_up σ 40 (upd (σ 40) 18 r)) k) 40 (upd ((s40_paint (px_up σ 40 (upd (σ 40) 18 r)) k) 40) 19 ((((s40_paint (px_up σ 40 (upd (σ 40) 18 r)) k) 40) 19) + 1)))) Q) (hB : ¬ r = 0 → Q (some (.int (σ 40 19))) (sh0, (px_up σ 40 (upd (σ 40) 18 r)))) : px_W L xs mX3_goReign (11, [some (.ref 40), some (.int (cI i)), none], []) (sh0, σ) Q := by
  refine px_W.run 3 (f' := (16, [some (.ref 40), some (.int (cI i)), none], [.int (σ 40 10), .int (cI i)])) (h' := (sh0, σ)) rfl ?_
  refine px_W.icmp_ge rfl (fun c1 => absurd c1 (ge_noN hn hi (by omega))) (fun c1 => ?_)
  refine px_W.run 3 (f' := (24, [some (.ref 40), some (.int (cI i)), none], [.int (cI i), .ref 48])) (h' := (sh0, σ)) rfl ?_
  refine px_W.iald rfl rfl (i := i) (cI_n _) (by omega) (by decide) ?_
  refine px_W.run 3 (f' := (29, [some (.ref 40), some (.int (cI i)), some (.int (σ 48 i))], [.int 115, .int (σ 48 i)])) (h' := (sh0, σ)) rfl ?_
  refine px_W.icmp_ne rfl (fun c2 => absurd c2 (fun q => absurd hx (by rw [q]; decide))) (fun c2 => ?_)
  refine px_W.run 2 (f' := (53, [some (.ref 40), some (.int (cI i)), some (.int (σ 48 i))], [.int 47, .int (σ 48 i)])) (h' := (sh0, σ)) rfl ?_
  refine px_W.icmp_ne rfl (fun c3 => absurd c3 (fun q => absurd hx (by rw [q]; decide))) (fun c3 => ?_)
  refine px_W.run 1 (f' := (109, [some (.ref 40), some (.int (cI i)), some (.int (σ 48 i))], [.int (σ 48 i)])) (h' := (sh0, σ)) rfl ?_
  refine px_W.cE (as := [.int (σ 48 i)]) (st := []) (v := some (.int (bo (iB (σ 48 i) 97 104)))) (σ' := σ) rfl rfl rfl (t_isPart σ (σ 48 i)) ?_
  refine px_W.if_eq rfl (fun c4 => absurd c4 (by rw [hx]; decide)) (fun c4 => ?_)
  refine px_W.run 5 (f' := (121, [some (.ref 40), some (.int (cI i)), some (.int (σ 48 i))], [.int ((σ 48 i) - 97), .ref 40, .ref 40])) (h' := (sh0, σ)) rfl ?_
  refine px_W.to (f' := (121, [some (.ref 40), some (.int (cI i)), some (.int (σ 48 i))], [.int (cI k), .ref 40, .ref 40])) (h' := (sh0, σ)) (by rw [← hy]) ?_
  refine px_W.cE (as := [.ref 40, .int (cI k)]) (st := [.ref 40]) (v := some (.int r)) (σ' := σ) rfl rfl rfl (hT) ?_
  refine px_W.puti rfl rfl ?_
  refine px_W.run 2 (f' := (131, [some (.ref 40), some (.int (cI i)), some (.int (σ 48 i))], [.int r])) (h' := (sh0, (px_up σ 40 (upd (σ 40) 18 r)))) rfl ?_
  refine px_W.if_ne rfl (fun c5 => ?_) (fun c5 => ?_)
  · refine px_W.run 4 (f' := (139, [some (.ref 40), some (.int (cI i)), some (.int (σ 48 i))], [.int ((σ 48 i) - 97), .ref 40])) (h' := (sh0, (px_up σ 40 (upd (σ 40) 18 r)))) rfl ?_
    refine px_W.to (f' := (139, [some (.ref 40), some (.int (cI i)), some (.int (σ 48 i))], [.int (cI k), .ref 40])) (h' := (sh0, (px_up σ 40 (upd (σ 40) 18 r)))) (by rw [← hy]) ?_
    refine px_W.cE (as := [.ref 40, .int (cI k)]) (st := []) (v := none) (σ' := (s40_paint (px_up σ 40 (upd (σ 40) 18 r)) k)) rfl rfl rfl (t_paint (px_up σ 40 (upd (σ 40) 18 r)) hkk) ?_
    refine px_W.run 3 (f' := (176, [some (.ref 40), some (.int (cI i)), some (.int (σ 48 i))], [.int (((s40_paint (px_up σ 40 (upd (σ 40) 18 r)) k) 40) 18)])) (h' := (sh0, (s40_paint (px_up σ 40 (upd (σ 40) 18 r)) k))) rfl ?_
    refine px_W.if_le rfl (fun c6 => ?_) (fun c6 => absurd (r18_p (by assumption)) c6)
    refine px_W.run 6 (f' := (194, [some (.ref 40), some (.int ((cI i) + 1)), some (.int (σ 48 i))], [.int ((((s40_paint (px_up σ 40 (upd (σ 40) 18 r)) k) 40) 19) + 1), .ref 40])) (h' := (sh0, (s40_paint (px_up σ 40 (upd (σ 40) 18 r)) k))) rfl ?_
    refine px_W.puti rfl rfl ?_
    refine px_W.run 1 (f' := (11, [some (.ref 40), some (.int ((cI i) + 1)), some (.int (σ 48 i))], [])) (h' := (sh0, (px_up (s40_paint (px_up σ 40 (upd (σ 40) 18 r)) k) 40 (upd ((s40_paint (px_up σ 40 (upd (σ 40) 18 r)) k) 40) 19 ((((s40_paint (px_up σ 40 (upd (σ 40) 18 r)) k) 40) 19) + 1))))) rfl ?_
    exact px_W.drop (loc := [some (.ref 40), some (.int (cI (i + 1))), none]) (by repeat' constructor) (hA (by assumption))
  · refine px_W.run 2 (f' := (176, [some (.ref 40), some (.int (cI i)), some (.int (σ 48 i))], [.int r])) (h' := (sh0, (px_up σ 40 (upd (σ 40) 18 r)))) rfl ?_
    refine px_W.if_le rfl (fun c7 => absurd c7 (hr (by assumption))) (fun c7 => ?_)
    refine px_W.run 2 (f' := (183, [some (.ref 40), some (.int (cI i)), some (.int (σ 48 i))], [.int (σ 40 19)])) (h' := (sh0, (px_up σ 40 (upd (σ 40) 18 r)))) rfl ?_
    exact px_W.iret rfl rfl (hB (by assumption))
theorem go_make {L : Nat} {xs : Nat → Int32} {Q : Option Value → px_H → Prop} (σ : px_Sg) {i n : Nat} (hn : σ 40 10 = nI n) (h60 : n ≤ 60) (hi : i < n) (h1 : ¬ σ 48 i = 115) (h2 : ¬ σ 48 i = 47) (h3 : iB (σ 48 i) 97 104 = false) {k : Nat} (hkk : k < 8) (hy : σ 48 i - 65 = cI k) {r : Int32} (hT : px_E L xs mX3_whyNoAct [.ref 40, .int (cI k)] σ (some (.int r)) σ) (hr : ¬ r = 0 → ¬ r ≤ 0) (hA : r = 0 → px_W L xs mX3_goReign (11, [some (.ref 40), some (.int (cI (i + 1))), none], []) (sh0, (px_up (s40_make (px_up σ 40 (upd (σ 40) 18 r)) k) 40 (upd ((s40_make (px_up σ 40 (upd (σ 40) 18 r)) k) 40) 19 ((((s40_make (px_up σ 40 (upd (σ 40) 18 r)) k) 40) 19) + 1)))) Q) (hB : ¬ r = 0 → Q (some (.int (σ 40 19))) (sh0, (px_up σ 40 (upd (σ 40) 18 r)))) : px_W L xs mX3_goReign (11, [some (.ref 40), some (.int (cI i)), none], []) (sh0, σ) Q := by
  refine px_W.run 3 (f' := (16, [some (.ref 40), some (.int (cI i)), none], [.int (σ 40 10), .int (cI i)])) (h' := (sh0, σ)) rfl ?_
  refine px_W.icmp_ge rfl (fun c1 => absurd c1 (ge_noN hn hi (by omega))) (fun c1 => ?_)
  refine px_W.run 3 (f' := (24, [some (.ref 40), some (.int (cI i)), none], [.int (cI i), .ref 48])) (h' := (sh0, σ)) rfl ?_
  refine px_W.iald rfl rfl (i := i) (cI_n _) (by omega) (by decide) ?_
  refine px_W.run 3 (f' := (29, [some (.ref 40), some (.int (cI i)), some (.int (σ 48 i))], [.int 115, .int (σ 48 i)])) (h' := (sh0, σ)) rfl ?_
  refine px_W.icmp_ne rfl (fun c2 => absurd c2 (h1)) (fun c2 => ?_)
  refine px_W.run 2 (f' := (53, [some (.ref 40), some (.int (cI i)), some (.int (σ 48 i))], [.int 47, .int (σ 48 i)])) (h' := (sh0, σ)) rfl ?_
  refine px_W.icmp_ne rfl (fun c3 => absurd c3 (h2)) (fun c3 => ?_)
  refine px_W.run 1 (f' := (109, [some (.ref 40), some (.int (cI i)), some (.int (σ 48 i))], [.int (σ 48 i)])) (h' := (sh0, σ)) rfl ?_
  refine px_W.cE (as := [.int (σ 48 i)]) (st := []) (v := some (.int (bo (iB (σ 48 i) 97 104)))) (σ' := σ) rfl rfl rfl (t_isPart σ (σ 48 i)) ?_
  refine px_W.if_eq rfl (fun c4 => ?_) (fun c4 => absurd (by rw [h3]; decide) c4)
  refine px_W.run 5 (f' := (151, [some (.ref 40), some (.int (cI i)), some (.int (σ 48 i))], [.int ((σ 48 i) - 65), .ref 40, .ref 40])) (h' := (sh0, σ)) rfl ?_
  refine px_W.to (f' := (151, [some (.ref 40), some (.int (cI i)), some (.int (σ 48 i))], [.int (cI k), .ref 40, .ref 40])) (h' := (sh0, σ)) (by rw [← hy]) ?_
  refine px_W.cE (as := [.ref 40, .int (cI k)]) (st := [.ref 40]) (v := some (.int r)) (σ' := σ) rfl rfl rfl (hT) ?_
  refine px_W.puti rfl rfl ?_
  refine px_W.run 2 (f' := (161, [some (.ref 40), some (.int (cI i)), some (.int (σ 48 i))], [.int r])) (h' := (sh0, (px_up σ 40 (upd (σ 40) 18 r)))) rfl ?_
  refine px_W.if_ne rfl (fun c5 => ?_) (fun c5 => ?_)
  · refine px_W.run 4 (f' := (169, [some (.ref 40), some (.int (cI i)), some (.int (σ 48 i))], [.int ((σ 48 i) - 65), .ref 40])) (h' := (sh0, (px_up σ 40 (upd (σ 40) 18 r)))) rfl ?_
    refine px_W.to (f' := (169, [some (.ref 40), some (.int (cI i)), some (.int (σ 48 i))], [.int (cI k), .ref 40])) (h' := (sh0, (px_up σ 40 (upd (σ 40) 18 r)))) (by rw [← hy]) ?_
    refine px_W.cE (as := [.ref 40, .int (cI k)]) (st := []) (v := none) (σ' := (s40_make (px_up σ 40 (upd (σ 40) 18 r)) k)) rfl rfl rfl (t_make (px_up σ 40 (upd (σ 40) 18 r))) ?_
    refine px_W.run 2 (f' := (176, [some (.ref 40), some (.int (cI i)), some (.int (σ 48 i))], [.int (((s40_make (px_up σ 40 (upd (σ 40) 18 r)) k) 40) 18)])) (h' := (sh0, (s40_make (px_up σ 40 (upd (σ 40) 18 r)) k))) rfl ?_
    refine px_W.if_le rfl (fun c6 => ?_) (fun c6 => absurd (r18_m (by assumption)) c6)
    refine px_W.run 6 (f' := (194, [some (.ref 40), some (.int ((cI i) + 1)), some (.int (σ 48 i))], [.int ((((s40_make (px_up σ 40 (upd (σ 40) 18 r)) k) 40) 19) + 1), .ref 40])) (h' := (sh0, (s40_make (px_up σ 40 (upd (σ 40) 18 r)) k))) rfl ?_
    refine px_W.puti rfl rfl ?_
    refine px_W.run 1 (f' := (11, [some (.ref 40), some (.int ((cI i) + 1)), some (.int (σ 48 i))], [])) (h' := (sh0, (px_up (s40_make (px_up σ 40 (upd (σ 40) 18 r)) k) 40 (upd ((s40_make (px_up σ 40 (upd (σ 40) 18 r)) k) 40) 19 ((((s40_make (px_up σ 40 (upd (σ 40) 18 r)) k) 40) 19) + 1))))) rfl ?_
    exact px_W.drop (loc := [some (.ref 40), some (.int (cI (i + 1))), none]) (by repeat' constructor) (hA (by assumption))
  · refine px_W.run 2 (f' := (176, [some (.ref 40), some (.int (cI i)), some (.int (σ 48 i))], [.int r])) (h' := (sh0, (px_up σ 40 (upd (σ 40) 18 r)))) rfl ?_
    refine px_W.if_le rfl (fun c7 => absurd c7 (hr (by assumption))) (fun c7 => ?_)
    refine px_W.run 2 (f' := (183, [some (.ref 40), some (.int (cI i)), some (.int (σ 48 i))], [.int (σ 40 19)])) (h' := (sh0, (px_up σ 40 (upd (σ 40) 18 r)))) rfl ?_
    exact px_W.iret rfl rfl (hB (by assumption))
