def fB (w nt : Int32) (gv : Nat → Bool) : Nat → Bool
  | 0 => true
  | a + 1 => fB w nt gv a && ((!hb w a || gv a) && (!hb nt a || !gv a))
theorem fB_le {w nt : Int32} {gv : Nat → Bool} : ∀ (d a : Nat), fB w nt gv a = false → fB w nt gv (a + d) = false
  | 0, _, h => h
  | d + 1, a, h => by
    have := fB_le d a h
    show (fB w nt gv (a + d) && _) = false
    rw [this]; rfl
theorem fB_no {w nt : Int32} {gv : Nat → Bool} {c : Bool} {a : Nat} (ha : a < 8) (h : bo (c && fB w nt gv a) = 0) : (c && fB w nt gv 8) = false := by
  rw [bo_0] at h
  cases c with
  | false => rfl
  | true =>
    have := fB_le (8 - a) a h
    rw [show a + (8 - a) = 8 by omega] at this
    exact this
theorem fB_s {w nt : Int32} {gv : Nat → Bool} {c : Bool} {a : Nat} (h : ¬ bo (c && fB w nt gv a) = 0) : (c && fB w nt gv (a + 1)) = ((!hb w a || gv a) && (!hb nt a || !gv a)) := by
  rw [bo_n0] at h
  simp only [Bool.and_eq_true] at h
  rw [fB, h.1, h.2]; rfl
theorem ch_in {L : Nat} {xs : Nat → Int32} {Q : Option Value → px_H → Prop} (σ : px_Sg) (w nt done best : Int32) {i : Nat} (c : Bool) (hk : px_W L xs mX3_cheapest (16, [some (.ref 40), some (.int w), some (.int nt), some (.int done), some (.int (if (c && fB w nt (fun a => gB (σ 45) (σ 43) (done ||| cI i) a) 8) then cI i else best)), some (.int (cI (i + 1))), none, none, none], []) (sh0, σ) Q)  : px_W L xs mX3_cheapest (69, [some (.ref 40), some (.int w), some (.int nt), some (.int done), some (.int best), some (.int (cI i)), some (.int (bo c)), none, none], []) (sh0, σ) Q := by
  refine px_W.run 2 (f' := (72, [some (.ref 40), some (.int w), some (.int nt), some (.int done), some (.int best), some (.int (cI i)), some (.int (bo c)), some (.int 0), none], [])) (h' := (sh0, σ)) rfl ?_
  refine px_W.to (f' := (72, [some (.ref 40), some (.int w), some (.int nt), some (.int done), some (.int best), some (.int (cI i)), some (.int (bo (c && fB w nt (fun a => gB (σ 45) (σ 43) (done ||| cI i) a) 0))), some (.int (cI 0)), none], [])) (h' := (sh0, σ)) (by simp only [fB, Bool.and_true]; rfl) ?_
  refine px_W.loop (8) (fun a => ((72, [some (.ref 40), some (.int w), some (.int nt), some (.int done), some (.int best), some (.int (cI i)), some (.int (bo (c && fB w nt (fun a => gB (σ 45) (σ 43) (done ||| cI i) a) a))), some (.int (cI a)), none], []), (sh0, σ))) (fun _ => True) (trivial) (fun a ha hIa ka => ?_) (fun hIa => ?_)
  · refine px_W.run 2 (f' := (76, [some (.ref 40), some (.int w), some (.int nt), some (.int done), some (.int best), some (.int (cI i)), some (.int (bo (c && fB w nt (fun a => gB (σ 45) (σ 43) (done ||| cI i) a) a))), some (.int (cI a)), none], [.int 8, .int (cI a)])) (h' := (sh0, σ)) rfl ?_
    refine px_W.icmp_ge rfl (fun c1 => absurd c1 (ge_no 8 ha (by decide))) (fun c1 => ?_)
    refine px_W.run 1 (f' := (81, [some (.ref 40), some (.int w), some (.int nt), some (.int done), some (.int best), some (.int (cI i)), some (.int (bo (c && fB w nt (fun a => gB (σ 45) (σ 43) (done ||| cI i) a) a))), some (.int (cI a)), none], [.int (bo (c && fB w nt (fun a => gB (σ 45) (σ 43) (done ||| cI i) a) a))])) (h' := (sh0, σ)) rfl ?_
    refine px_W.if_eq rfl (fun c2 => ?_) (fun c2 => ?_)
    · refine px_W.run 1 (f' := (139, [some (.ref 40), some (.int w), some (.int nt), some (.int done), some (.int best), some (.int (cI i)), some (.int (bo (c && fB w nt (fun a => gB (σ 45) (σ 43) (done ||| cI i) a) a))), some (.int (cI a)), none], [.int (bo (c && fB w nt (fun a => gB (σ 45) (σ 43) (done ||| cI i) a) a))])) (h' := (sh0, σ)) rfl ?_
      refine px_W.if_eq rfl (fun c3 => ?_) (fun c3 => ?_)
      · refine px_W.run 4 (f' := (16, [some (.ref 40), some (.int w), some (.int nt), some (.int done), some (.int best), some (.int ((cI i) + 1)), some (.int (bo (c && fB w nt (fun a => gB (σ 45) (σ 43) (done ||| cI i) a) a))), some (.int (cI a)), none], [])) (h' := (sh0, σ)) rfl ?_
        exact px_W.drop (loc := [some (.ref 40), some (.int w), some (.int nt), some (.int done), some (.int best), some (.int ((cI i) + 1)), none, none, none]) (by repeat' constructor) (px_W.to (by first | contradiction | (rw [fB_no ha (by assumption)]; rfl) | (rw [show (c && fB w nt (fun a => gB (σ 45) (σ 43) (done ||| cI i) a) 8) = false from bo_0.mp (by assumption)]; rfl) | (rw [show (c && fB w nt (fun a => gB (σ 45) (σ 43) (done ||| cI i) a) 8) = true from bo_n0.mp (by assumption)]; rfl)) hk)
      · refine px_W.run 5 (f' := (16, [some (.ref 40), some (.int w), some (.int nt), some (.int done), some (.int (cI i)), some (.int ((cI i) + 1)), some (.int (bo (c && fB w nt (fun a => gB (σ 45) (σ 43) (done ||| cI i) a) a))), some (.int (cI a)), none], [])) (h' := (sh0, σ)) rfl ?_
        exact px_W.drop (loc := [some (.ref 40), some (.int w), some (.int nt), some (.int done), some (.int (cI i)), some (.int ((cI i) + 1)), none, none, none]) (by repeat' constructor) (px_W.to (by first | contradiction | (rw [fB_no ha (by assumption)]; rfl) | (rw [show (c && fB w nt (fun a => gB (σ 45) (σ 43) (done ||| cI i) a) 8) = false from bo_0.mp (by assumption)]; rfl) | (rw [show (c && fB w nt (fun a => gB (σ 45) (σ 43) (done ||| cI i) a) 8) = true from bo_n0.mp (by assumption)]; rfl)) hk)
    · refine px_W.run 5 (f' := (91, [some (.ref 40), some (.int w), some (.int nt), some (.int done), some (.int best), some (.int (cI i)), some (.int (bo (c && fB w nt (fun a => gB (σ 45) (σ 43) (done ||| cI i) a) a))), some (.int (cI a)), none], [.int (cI a), .int (done ||| (cI i)), .ref 40])) (h' := (sh0, σ)) rfl ?_
      refine px_W.cE (as := [.ref 40, .int (done ||| (cI i)), .int (cI a)]) (st := []) (v := some (.int (bo (gB (σ 45) (σ 43) (done ||| (cI i)) a)))) (σ' := σ) rfl rfl rfl (t_givesAll σ (done ||| (cI i)) ha) ?_
      refine px_W.run 3 (f' := (99, [some (.ref 40), some (.int w), some (.int nt), some (.int done), some (.int best), some (.int (cI i)), some (.int (bo (c && fB w nt (fun a => gB (σ 45) (σ 43) (done ||| cI i) a) a))), some (.int (cI a)), some (.int (bo (gB (σ 45) (σ 43) (done ||| (cI i)) a)))], [.int (cI a), .int w])) (h' := (sh0, σ)) rfl ?_
      refine px_W.cE (as := [.int w, .int (cI a)]) (st := []) (v := some (.int (bo (hb w a)))) (σ' := σ) rfl rfl rfl (t_has σ w (k := a) ha) ?_
      refine px_W.if_eq rfl (fun c4 => ?_) (fun c4 => ?_)
      · refine px_W.run 2 (f' := (113, [some (.ref 40), some (.int w), some (.int nt), some (.int done), some (.int best), some (.int (cI i)), some (.int (bo (c && fB w nt (fun a => gB (σ 45) (σ 43) (done ||| cI i) a) a))), some (.int (cI a)), some (.int (bo (gB (σ 45) (σ 43) (done ||| (cI i)) a)))], [.int (cI a), .int nt])) (h' := (sh0, σ)) rfl ?_
        refine px_W.cE (as := [.int nt, .int (cI a)]) (st := []) (v := some (.int (bo (hb nt a)))) (σ' := σ) rfl rfl rfl (t_has σ nt (k := a) ha) ?_
        refine px_W.if_eq rfl (fun c5 => ?_) (fun c5 => ?_)
        · refine px_W.run 5 (f' := (72, [some (.ref 40), some (.int w), some (.int nt), some (.int done), some (.int best), some (.int (cI i)), some (.int 1), some (.int ((cI a) + 1)), some (.int (bo (gB (σ 45) (σ 43) (done ||| (cI i)) a)))], [])) (h' := (sh0, σ)) rfl ?_
          refine px_W.drop (loc := [some (.ref 40), some (.int w), some (.int nt), some (.int done), some (.int best), some (.int (cI i)), some (.int 1), some (.int ((cI a) + 1)), none]) (by repeat' constructor) ?_
          exact px_W.to (by rw [fB_s (by assumption)]; simp_all [bo, cI]) (ka trivial)
        · refine px_W.run 1 (f' := (121, [some (.ref 40), some (.int w), some (.int nt), some (.int done), some (.int best), some (.int (cI i)), some (.int (bo (c && fB w nt (fun a => gB (σ 45) (σ 43) (done ||| cI i) a) a))), some (.int (cI a)), some (.int (bo (gB (σ 45) (σ 43) (done ||| (cI i)) a)))], [.int (bo (gB (σ 45) (σ 43) (done ||| (cI i)) a))])) (h' := (sh0, σ)) rfl ?_
          refine px_W.if_ne rfl (fun c6 => ?_) (fun c6 => ?_)
          · refine px_W.run 5 (f' := (72, [some (.ref 40), some (.int w), some (.int nt), some (.int done), some (.int best), some (.int (cI i)), some (.int 1), some (.int ((cI a) + 1)), some (.int (bo (gB (σ 45) (σ 43) (done ||| (cI i)) a)))], [])) (h' := (sh0, σ)) rfl ?_
            refine px_W.drop (loc := [some (.ref 40), some (.int w), some (.int nt), some (.int done), some (.int best), some (.int (cI i)), some (.int 1), some (.int ((cI a) + 1)), none]) (by repeat' constructor) ?_
            exact px_W.to (by rw [fB_s (by assumption)]; simp_all [bo, cI]) (ka trivial)
          · refine px_W.run 4 (f' := (72, [some (.ref 40), some (.int w), some (.int nt), some (.int done), some (.int best), some (.int (cI i)), some (.int 0), some (.int ((cI a) + 1)), some (.int (bo (gB (σ 45) (σ 43) (done ||| (cI i)) a)))], [])) (h' := (sh0, σ)) rfl ?_
            refine px_W.drop (loc := [some (.ref 40), some (.int w), some (.int nt), some (.int done), some (.int best), some (.int (cI i)), some (.int 0), some (.int ((cI a) + 1)), none]) (by repeat' constructor) ?_
            exact px_W.to (by rw [fB_s (by assumption)]; simp_all [bo, cI]) (ka trivial)
      · refine px_W.run 1 (f' := (107, [some (.ref 40), some (.int w), some (.int nt), some (.int done), some (.int best), some (.int (cI i)), some (.int (bo (c && fB w nt (fun a => gB (σ 45) (σ 43) (done ||| cI i) a) a))), some (.int (cI a)), some (.int (bo (gB (σ 45) (σ 43) (done ||| (cI i)) a)))], [.int (bo (gB (σ 45) (σ 43) (done ||| (cI i)) a))])) (h' := (sh0, σ)) rfl ?_
        refine px_W.if_eq rfl (fun c7 => ?_) (fun c7 => ?_)
        · refine px_W.run 4 (f' := (72, [some (.ref 40), some (.int w), some (.int nt), some (.int done), some (.int best), some (.int (cI i)), some (.int 0), some (.int ((cI a) + 1)), some (.int (bo (gB (σ 45) (σ 43) (done ||| (cI i)) a)))], [])) (h' := (sh0, σ)) rfl ?_
          refine px_W.drop (loc := [some (.ref 40), some (.int w), some (.int nt), some (.int done), some (.int best), some (.int (cI i)), some (.int 0), some (.int ((cI a) + 1)), none]) (by repeat' constructor) ?_
          exact px_W.to (by rw [fB_s (by assumption)]; simp_all [bo, cI]) (ka trivial)
        · refine px_W.run 2 (f' := (113, [some (.ref 40), some (.int w), some (.int nt), some (.int done), some (.int best), some (.int (cI i)), some (.int (bo (c && fB w nt (fun a => gB (σ 45) (σ 43) (done ||| cI i) a) a))), some (.int (cI a)), some (.int (bo (gB (σ 45) (σ 43) (done ||| (cI i)) a)))], [.int (cI a), .int nt])) (h' := (sh0, σ)) rfl ?_
          refine px_W.cE (as := [.int nt, .int (cI a)]) (st := []) (v := some (.int (bo (hb nt a)))) (σ' := σ) rfl rfl rfl (t_has σ nt (k := a) ha) ?_
          refine px_W.if_eq rfl (fun c8 => ?_) (fun c8 => ?_)
          · refine px_W.run 5 (f' := (72, [some (.ref 40), some (.int w), some (.int nt), some (.int done), some (.int best), some (.int (cI i)), some (.int 1), some (.int ((cI a) + 1)), some (.int (bo (gB (σ 45) (σ 43) (done ||| (cI i)) a)))], [])) (h' := (sh0, σ)) rfl ?_
            refine px_W.drop (loc := [some (.ref 40), some (.int w), some (.int nt), some (.int done), some (.int best), some (.int (cI i)), some (.int 1), some (.int ((cI a) + 1)), none]) (by repeat' constructor) ?_
            exact px_W.to (by rw [fB_s (by assumption)]; simp_all [bo, cI]) (ka trivial)
          · refine px_W.run 1 (f' := (121, [some (.ref 40), some (.int w), some (.int nt), some (.int done), some (.int best), some (.int (cI i)), some (.int (bo (c && fB w nt (fun a => gB (σ 45) (σ 43) (done ||| cI i) a) a))), some (.int (cI a)), some (.int (bo (gB (σ 45) (σ 43) (done ||| (cI i)) a)))], [.int (bo (gB (σ 45) (σ 43) (done ||| (cI i)) a))])) (h' := (sh0, σ)) rfl ?_
            refine px_W.if_ne rfl (fun c9 => ?_) (fun c9 => ?_)
            · refine px_W.run 5 (f' := (72, [some (.ref 40), some (.int w), some (.int nt), some (.int done), some (.int best), some (.int (cI i)), some (.int 1), some (.int ((cI a) + 1)), some (.int (bo (gB (σ 45) (σ 43) (done ||| (cI i)) a)))], [])) (h' := (sh0, σ)) rfl ?_
              refine px_W.drop (loc := [some (.ref 40), some (.int w), some (.int nt), some (.int done), some (.int best), some (.int (cI i)), some (.int 1), some (.int ((cI a) + 1)), none]) (by repeat' constructor) ?_
              exact px_W.to (by rw [fB_s (by assumption)]; simp_all [bo, cI]) (ka trivial)
            · refine px_W.run 4 (f' := (72, [some (.ref 40), some (.int w), some (.int nt), some (.int done), some (.int best), some (.int (cI i)), some (.int 0), some (.int ((cI a) + 1)), some (.int (bo (gB (σ 45) (σ 43) (done ||| (cI i)) a)))], [])) (h' := (sh0, σ)) rfl ?_
              refine px_W.drop (loc := [some (.ref 40), some (.int w), some (.int nt), some (.int done), some (.int best), some (.int (cI i)), some (.int 0), some (.int ((cI a) + 1)), none]) (by repeat' constructor) ?_
              exact px_W.to (by rw [fB_s (by assumption)]; simp_all [bo, cI]) (ka trivial)
  · refine px_W.run 2 (f' := (76, [some (.ref 40), some (.int w), some (.int nt), some (.int done), some (.int best), some (.int (cI i)), some (.int (bo (c && fB w nt (fun a => gB (σ 45) (σ 43) (done ||| cI i) a) 8))), some (.int (cI 8)), none], [.int 8, .int (cI 8)])) (h' := (sh0, σ)) rfl ?_
    refine px_W.icmp_ge rfl (fun c10 => ?_) (fun c10 => absurd (ge_yes 8 (by decide)) c10)
    refine px_W.run 1 (f' := (139, [some (.ref 40), some (.int w), some (.int nt), some (.int done), some (.int best), some (.int (cI i)), some (.int (bo (c && fB w nt (fun a => gB (σ 45) (σ 43) (done ||| cI i) a) 8))), some (.int (cI 8)), none], [.int (bo (c && fB w nt (fun a => gB (σ 45) (σ 43) (done ||| cI i) a) 8))])) (h' := (sh0, σ)) rfl ?_
    refine px_W.if_eq rfl (fun c11 => ?_) (fun c11 => ?_)
    · refine px_W.run 4 (f' := (16, [some (.ref 40), some (.int w), some (.int nt), some (.int done), some (.int best), some (.int ((cI i) + 1)), some (.int (bo (c && fB w nt (fun a => gB (σ 45) (σ 43) (done ||| cI i) a) 8))), some (.int (cI 8)), none], [])) (h' := (sh0, σ)) rfl ?_
      exact px_W.drop (loc := [some (.ref 40), some (.int w), some (.int nt), some (.int done), some (.int best), some (.int ((cI i) + 1)), none, none, none]) (by repeat' constructor) (px_W.to (by first | contradiction | (rw [fB_no ha (by assumption)]; rfl) | (rw [show (c && fB w nt (fun a => gB (σ 45) (σ 43) (done ||| cI i) a) 8) = false from bo_0.mp (by assumption)]; rfl) | (rw [show (c && fB w nt (fun a => gB (σ 45) (σ 43) (done ||| cI i) a) 8) = true from bo_n0.mp (by assumption)]; rfl)) hk)
    · refine px_W.run 5 (f' := (16, [some (.ref 40), some (.int w), some (.int nt), some (.int done), some (.int (cI i)), some (.int ((cI i) + 1)), some (.int (bo (c && fB w nt (fun a => gB (σ 45) (σ 43) (done ||| cI i) a) 8))), some (.int (cI 8)), none], [])) (h' := (sh0, σ)) rfl ?_
      exact px_W.drop (loc := [some (.ref 40), some (.int w), some (.int nt), some (.int done), some (.int (cI i)), some (.int ((cI i) + 1)), none, none, none]) (by repeat' constructor) (px_W.to (by first | contradiction | (rw [fB_no ha (by assumption)]; rfl) | (rw [show (c && fB w nt (fun a => gB (σ 45) (σ 43) (done ||| cI i) a) 8) = false from bo_0.mp (by assumption)]; rfl) | (rw [show (c && fB w nt (fun a => gB (σ 45) (σ 43) (done ||| cI i) a) 8) = true from bo_n0.mp (by assumption)]; rfl)) hk)
theorem ch_turn {L : Nat} {xs : Nat → Int32} {Q : Option Value → px_H → Prop} (σ : px_Sg) (w nt done best : Int32) {i : Nat} (hi : i < 256) (hk : px_W L xs mX3_cheapest (16, [some (.ref 40), some (.int w), some (.int nt), some (.int done), some (.int (if ((decide ((cI i &&& done) = 0) && cS (σ 42) (done ||| cI i) && (decide (best < 0) || decide (coS (σ 41) (σ 44) (cI i) < coS (σ 41) (σ 44) best))) && fB w nt (fun a => gB (σ 45) (σ 43) (done ||| cI i) a) 8) then cI i else best)), some (.int (cI (i + 1))), none, none, none], []) (sh0, σ) Q)  : px_W L xs mX3_cheapest (16, [some (.ref 40), some (.int w), some (.int nt), some (.int done), some (.int best), some (.int (cI i)), none, none, none], []) (sh0, σ) Q := by
  refine px_W.run 2 (f' := (21, [some (.ref 40), some (.int w), some (.int nt), some (.int done), some (.int best), some (.int (cI i)), none, none, none], [.int 256, .int (cI i)])) (h' := (sh0, σ)) rfl ?_
  refine px_W.icmp_ge rfl (fun c1 => absurd c1 (ge_no 256 hi (by decide))) (fun c1 => ?_)
  refine px_W.run 3 (f' := (28, [some (.ref 40), some (.int w), some (.int nt), some (.int done), some (.int best), some (.int (cI i)), none, none, none], [.int ((cI i) &&& done)])) (h' := (sh0, σ)) rfl ?_
  refine px_W.if_ne rfl (fun c2 => ?_) (fun c2 => ?_)
  · refine px_W.run 4 (f' := (36, [some (.ref 40), some (.int w), some (.int nt), some (.int done), some (.int best), some (.int (cI i)), none, none, none], [.int (done ||| (cI i)), .ref 40])) (h' := (sh0, σ)) rfl ?_
    refine px_W.cE (as := [.ref 40, .int (done ||| (cI i))]) (st := []) (v := some (.int (bo (cS (σ 42) (done ||| (cI i)))))) (σ' := σ) rfl rfl rfl (t_isClosed σ (done ||| (cI i))) ?_
    refine px_W.if_eq rfl (fun c3 => ?_) (fun c3 => ?_)
    · refine px_W.run 2 (f' := (69, [some (.ref 40), some (.int w), some (.int nt), some (.int done), some (.int best), some (.int (cI i)), some (.int 0), none, none], [])) (h' := (sh0, σ)) rfl ?_
      exact ch_in σ w nt done best false (px_W.to (by rw [show (decide ((cI i &&& done) = 0) && cS (σ 42) (done ||| cI i) && (decide (best < 0) || decide (coS (σ 41) (σ 44) (cI i) < coS (σ 41) (σ 44) best))) = false by simp_all [bo_0, Int32.not_le, Int32.not_lt]]) hk)
    · refine px_W.run 1 (f' := (44, [some (.ref 40), some (.int w), some (.int nt), some (.int done), some (.int best), some (.int (cI i)), none, none, none], [.int best])) (h' := (sh0, σ)) rfl ?_
      refine px_W.if_lt rfl (fun c4 => ?_) (fun c4 => ?_)
      · refine px_W.run 3 (f' := (69, [some (.ref 40), some (.int w), some (.int nt), some (.int done), some (.int best), some (.int (cI i)), some (.int 1), none, none], [])) (h' := (sh0, σ)) rfl ?_
        exact ch_in σ w nt done best true (px_W.to (by rw [show (decide ((cI i &&& done) = 0) && cS (σ 42) (done ||| cI i) && (decide (best < 0) || decide (coS (σ 41) (σ 44) (cI i) < coS (σ 41) (σ 44) best))) = true by simp_all [bo_0, Int32.not_le, Int32.not_lt]]) hk)
      · refine px_W.run 2 (f' := (50, [some (.ref 40), some (.int w), some (.int nt), some (.int done), some (.int best), some (.int (cI i)), none, none, none], [.int (cI i), .ref 40])) (h' := (sh0, σ)) rfl ?_
        refine px_W.cE (as := [.ref 40, .int (cI i)]) (st := []) (v := some (.int (coS (σ 41) (σ 44) (cI i)))) (σ' := σ) rfl rfl rfl (t_costOf σ (cI i)) ?_
        refine px_W.run 2 (f' := (56, [some (.ref 40), some (.int w), some (.int nt), some (.int done), some (.int best), some (.int (cI i)), none, none, none], [.int best, .ref 40, .int (coS (σ 41) (σ 44) (cI i))])) (h' := (sh0, σ)) rfl ?_
        refine px_W.cE (as := [.ref 40, .int best]) (st := [.int (coS (σ 41) (σ 44) (cI i))]) (v := some (.int (coS (σ 41) (σ 44) best))) (σ' := σ) rfl rfl rfl (t_costOf σ best) ?_
        refine px_W.icmp_ge rfl (fun c5 => ?_) (fun c5 => ?_)
        · refine px_W.run 2 (f' := (69, [some (.ref 40), some (.int w), some (.int nt), some (.int done), some (.int best), some (.int (cI i)), some (.int 0), none, none], [])) (h' := (sh0, σ)) rfl ?_
          exact ch_in σ w nt done best false (px_W.to (by rw [show (decide ((cI i &&& done) = 0) && cS (σ 42) (done ||| cI i) && (decide (best < 0) || decide (coS (σ 41) (σ 44) (cI i) < coS (σ 41) (σ 44) best))) = false by simp_all [bo_0, Int32.not_le, Int32.not_lt]]) hk)
        · refine px_W.run 3 (f' := (69, [some (.ref 40), some (.int w), some (.int nt), some (.int done), some (.int best), some (.int (cI i)), some (.int 1), none, none], [])) (h' := (sh0, σ)) rfl ?_
          exact ch_in σ w nt done best true (px_W.to (by rw [show (decide ((cI i &&& done) = 0) && cS (σ 42) (done ||| cI i) && (decide (best < 0) || decide (coS (σ 41) (σ 44) (cI i) < coS (σ 41) (σ 44) best))) = true by simp_all [bo_0, Int32.not_le, Int32.not_lt]]) hk)
  · refine px_W.run 2 (f' := (69, [some (.ref 40), some (.int w), some (.int nt), some (.int done), some (.int best), some (.int (cI i)), some (.int 0), none, none], [])) (h' := (sh0, σ)) rfl ?_
    exact ch_in σ w nt done best false (px_W.to (by rw [show (decide ((cI i &&& done) = 0) && cS (σ 42) (done ||| cI i) && (decide (best < 0) || decide (coS (σ 41) (σ 44) (cI i) < coS (σ 41) (σ 44) best))) = false by simp_all [bo_0, Int32.not_le, Int32.not_lt]]) hk)
theorem ch_end {L : Nat} {xs : Nat → Int32} {Q : Option Value → px_H → Prop} (σ : px_Sg) (w nt done best : Int32) (hq : Q (some (.int best)) (sh0, σ))  : px_W L xs mX3_cheapest (16, [some (.ref 40), some (.int w), some (.int nt), some (.int done), some (.int best), some (.int (cI 256)), none, none, none], []) (sh0, σ) Q := by
  refine px_W.run 2 (f' := (21, [some (.ref 40), some (.int w), some (.int nt), some (.int done), some (.int best), some (.int (cI 256)), none, none, none], [.int 256, .int (cI 256)])) (h' := (sh0, σ)) rfl ?_
  refine px_W.icmp_ge rfl (fun c1 => ?_) (fun c1 => absurd (ge_yes 256 (by decide)) c1)
  refine px_W.run 1 (f' := (159, [some (.ref 40), some (.int w), some (.int nt), some (.int done), some (.int best), some (.int (cI 256)), none, none, none], [.int best])) (h' := (sh0, σ)) rfl ?_
  exact px_W.iret rfl rfl (hq)
theorem ch_0 {L : Nat} {xs : Nat → Int32} {Q : Option Value → px_H → Prop} (σ : px_Sg) (w nt : Int32) (hk : px_W L xs mX3_cheapest (16, [some (.ref 40), some (.int w), some (.int nt), some (.int (dS ((s_asNow σ) 41) ((s_asNow σ) 49))), some (.int ((-6))), some (.int 0), none, none, none], []) (sh0, s_asNow σ) Q) : px_W L xs mX3_cheapest (0, [some (.ref 40), some (.int w), some (.int nt), none, none, none, none, none, none], []) (sh0, σ) Q := by
  refine px_W.run 1 (f' := (1, [some (.ref 40), some (.int w), some (.int nt), none, none, none, none, none, none], [.ref 40])) (h' := (sh0, σ)) rfl ?_
  refine px_W.cE (as := [.ref 40]) (st := []) (v := none) (σ' := (s_asNow σ)) rfl rfl rfl (t_asNow σ) ?_
  refine px_W.run 1 (f' := (5, [some (.ref 40), some (.int w), some (.int nt), none, none, none, none, none, none], [.ref 40])) (h' := (sh0, (s_asNow σ))) rfl ?_
  refine px_W.cE (as := [.ref 40]) (st := []) (v := some (.int (dS ((s_asNow σ) 41) ((s_asNow σ) 49)))) (σ' := (s_asNow σ)) rfl rfl rfl (t_doneNow (s_asNow σ)) ?_
  refine px_W.run 5 (f' := (16, [some (.ref 40), some (.int w), some (.int nt), some (.int (dS ((s_asNow σ) 41) ((s_asNow σ) 49))), some (.int ((-6))), some (.int 0), none, none, none], [])) (h' := (sh0, (s_asNow σ))) rfl ?_
  exact hk
