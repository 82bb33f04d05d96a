theorem t1_doneParts {L : Nat} {xs : Nat → Int32} (σ : px_Sg) : px_E L xs mX1_doneParts [.ref 1] σ (some (.int (dS (σ 2) (σ 5)))) σ := by
  show px_W L xs mX1_doneParts (0, [some (.ref 1), none, none], []) (sh0, σ) _
  refine px_W.run 4 (f' := (4, [some (.ref 1), some (.int 0), some (.int 0)], [])) (h' := (sh0, σ)) rfl ?_
  refine px_W.loop (8) (fun i => ((4, [some (.ref 1), some (.int (mk (fun k => decide (σ 5 k = σ 2 k)) i)), some (.int (cI i))], []), (sh0, σ))) (fun _ => True) (trivial) (fun i hi hIi ki => ?_) (fun hIi => ?_)
  · refine px_W.run 2 (f' := (7, [some (.ref 1), some (.int (mk (fun k => decide (σ 5 k = σ 2 k)) i)), some (.int (cI i))], [.int 8, .int (cI i)])) (h' := (sh0, σ)) rfl ?_
    refine px_W.icmp_ge rfl (fun c1 => absurd c1 (ge_no 8 hi (by decide))) (fun c1 => ?_)
    refine px_W.run 3 (f' := (15, [some (.ref 1), some (.int (mk (fun k => decide (σ 5 k = σ 2 k)) i)), some (.int (cI i))], [.int (cI i), .ref 5])) (h' := (sh0, σ)) rfl ?_
    refine px_W.iald rfl rfl (i := i) (cI_n _) (hi) (by decide) ?_
    refine px_W.run 3 (f' := (21, [some (.ref 1), some (.int (mk (fun k => decide (σ 5 k = σ 2 k)) i)), some (.int (cI i))], [.int (cI i), .ref 2, .int (σ 5 i)])) (h' := (sh0, σ)) rfl ?_
    refine px_W.iald rfl rfl (i := i) (cI_n _) (hi) (by decide) ?_
    refine px_W.icmp_ne rfl (fun c2 => ?_) (fun c2 => ?_)
    · refine px_W.run 8 (f' := (4, [some (.ref 1), some (.int ((mk (fun k => decide (σ 5 k = σ 2 k)) i) ||| (1 <<< ((cI i) &&& 31)))), some (.int ((cI i) + 1))], [])) (h' := (sh0, σ)) rfl ?_
      exact px_W.to (by simp_all [mk, bo, cI, on]) (ki trivial)
    · refine px_W.run 2 (f' := (4, [some (.ref 1), some (.int (mk (fun k => decide (σ 5 k = σ 2 k)) i)), some (.int ((cI i) + 1))], [])) (h' := (sh0, σ)) rfl ?_
      exact px_W.to (by simp_all [mk, bo, cI, on]) (ki trivial)
  · refine px_W.run 2 (f' := (7, [some (.ref 1), some (.int (mk (fun k => decide (σ 5 k = σ 2 k)) 8)), some (.int (cI 8))], [.int 8, .int (cI 8)])) (h' := (sh0, σ)) rfl ?_
    refine px_W.icmp_ge rfl (fun c3 => ?_) (fun c3 => absurd (ge_yes 8 (by decide)) c3)
    refine px_W.run 1 (f' := (38, [some (.ref 1), some (.int (mk (fun k => decide (σ 5 k = σ 2 k)) 8)), some (.int (cI 8))], [.int (mk (fun k => decide (σ 5 k = σ 2 k)) 8)])) (h' := (sh0, σ)) rfl ?_
    exact px_W.iret rfl rfl ⟨rfl, rfl⟩
theorem t1_paintedParts {L : Nat} {xs : Nat → Int32} (σ : px_Sg) : px_E L xs mX1_paintedParts [.ref 1] σ (some (.int (bS (σ 5)))) σ := by
  show px_W L xs mX1_paintedParts (0, [some (.ref 1), none, none], []) (sh0, σ) _
  refine px_W.run 4 (f' := (4, [some (.ref 1), some (.int 0), some (.int 0)], [])) (h' := (sh0, σ)) rfl ?_
  refine px_W.loop (8) (fun i => ((4, [some (.ref 1), some (.int (mk (fun k => !decide (σ 5 k ≤ 0)) i)), some (.int (cI i))], []), (sh0, σ))) (fun _ => True) (trivial) (fun i hi hIi ki => ?_) (fun hIi => ?_)
  · refine px_W.run 2 (f' := (7, [some (.ref 1), some (.int (mk (fun k => !decide (σ 5 k ≤ 0)) i)), some (.int (cI i))], [.int 8, .int (cI i)])) (h' := (sh0, σ)) rfl ?_
    refine px_W.icmp_ge rfl (fun c1 => absurd c1 (ge_no 8 hi (by decide))) (fun c1 => ?_)
    refine px_W.run 3 (f' := (15, [some (.ref 1), some (.int (mk (fun k => !decide (σ 5 k ≤ 0)) i)), some (.int (cI i))], [.int (cI i), .ref 5])) (h' := (sh0, σ)) rfl ?_
    refine px_W.iald rfl rfl (i := i) (cI_n _) (hi) (by decide) ?_
    refine px_W.if_le rfl (fun c2 => ?_) (fun c2 => ?_)
    · refine px_W.run 2 (f' := (4, [some (.ref 1), some (.int (mk (fun k => !decide (σ 5 k ≤ 0)) i)), some (.int ((cI i) + 1))], [])) (h' := (sh0, σ)) rfl ?_
      exact px_W.to (by simp_all [mk, bo, cI, on]) (ki trivial)
    · refine px_W.run 8 (f' := (4, [some (.ref 1), some (.int ((mk (fun k => !decide (σ 5 k ≤ 0)) i) ||| (1 <<< ((cI i) &&& 31)))), some (.int ((cI i) + 1))], [])) (h' := (sh0, σ)) rfl ?_
      exact px_W.to (by simp_all [mk, bo, cI, on]) (ki trivial)
  · refine px_W.run 2 (f' := (7, [some (.ref 1), some (.int (mk (fun k => !decide (σ 5 k ≤ 0)) 8)), some (.int (cI 8))], [.int 8, .int (cI 8)])) (h' := (sh0, σ)) rfl ?_
    refine px_W.icmp_ge rfl (fun c3 => ?_) (fun c3 => absurd (ge_yes 8 (by decide)) c3)
    refine px_W.run 1 (f' := (32, [some (.ref 1), some (.int (mk (fun k => !decide (σ 5 k ≤ 0)) 8)), some (.int (cI 8))], [.int (mk (fun k => !decide (σ 5 k ≤ 0)) 8)])) (h' := (sh0, σ)) rfl ?_
    exact px_W.iret rfl rfl ⟨rfl, rfl⟩
theorem t1_powersOf {L : Nat} {xs : Nat → Int32} (σ : px_Sg) (s : Int32) : px_E L xs mX1_powersOf [.ref 1, .int s] σ (some (.int (pS (σ 4) s))) σ := by
  show px_W L xs mX1_powersOf (0, [some (.ref 1), some (.int s), none, none], []) (sh0, σ) _
  refine px_W.run 4 (f' := (4, [some (.ref 1), some (.int s), some (.int 0), some (.int 0)], [])) (h' := (sh0, σ)) rfl ?_
  refine px_W.loop (8) (fun i => ((4, [some (.ref 1), some (.int s), some (.int (po (σ 4) s i)), some (.int (cI i))], []), (sh0, σ))) (fun _ => True) (trivial) (fun i hi hIi ki => ?_) (fun hIi => ?_)
  · refine px_W.run 2 (f' := (7, [some (.ref 1), some (.int s), some (.int (po (σ 4) s i)), some (.int (cI i))], [.int 8, .int (cI i)])) (h' := (sh0, σ)) rfl ?_
    refine px_W.icmp_ge rfl (fun c1 => absurd c1 (ge_no 8 hi (by decide))) (fun c1 => ?_)
    refine px_W.run 5 (f' := (15, [some (.ref 1), some (.int s), some (.int (po (σ 4) s i)), some (.int (cI i))], [.int (s &&& (1 <<< ((cI i) &&& 31)))])) (h' := (sh0, σ)) rfl ?_
    refine px_W.if_eq rfl (fun c2 => ?_) (fun c2 => ?_)
    · refine px_W.run 2 (f' := (4, [some (.ref 1), some (.int s), some (.int (po (σ 4) s i)), some (.int ((cI i) + 1))], [])) (h' := (sh0, σ)) rfl ?_
      exact px_W.to (by simp_all [po, hb, cI, on]) (ki trivial)
    · refine px_W.run 4 (f' := (24, [some (.ref 1), some (.int s), some (.int (po (σ 4) s i)), some (.int (cI i))], [.int (cI i), .ref 4, .int (po (σ 4) s i)])) (h' := (sh0, σ)) rfl ?_
      refine px_W.iald rfl rfl (i := i) (cI_n _) (hi) (by decide) ?_
      refine px_W.run 4 (f' := (4, [some (.ref 1), some (.int s), some (.int ((po (σ 4) s i) ||| (σ 4 i))), some (.int ((cI i) + 1))], [])) (h' := (sh0, σ)) rfl ?_
      exact px_W.to (by simp_all [po, hb, cI, on]) (ki trivial)
  · refine px_W.run 2 (f' := (7, [some (.ref 1), some (.int s), some (.int (po (σ 4) s 8)), some (.int (cI 8))], [.int 8, .int (cI 8)])) (h' := (sh0, σ)) rfl ?_
    refine px_W.icmp_ge rfl (fun c3 => ?_) (fun c3 => absurd (ge_yes 8 (by decide)) c3)
    refine px_W.run 1 (f' := (34, [some (.ref 1), some (.int s), some (.int (po (σ 4) s 8)), some (.int (cI 8))], [.int (po (σ 4) s 8)])) (h' := (sh0, σ)) rfl ?_
    exact px_W.iret rfl rfl ⟨rfl, rfl⟩
theorem t1_actsWithin {L : Nat} {xs : Nat → Int32} (σ : px_Sg) (w : Int32) : px_E L xs mX1_actsWithin [.ref 1, .int w] σ (some (.int (aS (σ 6) w))) σ := by
  show px_W L xs mX1_actsWithin (0, [some (.ref 1), some (.int w), none, none], []) (sh0, σ) _
  refine px_W.run 4 (f' := (4, [some (.ref 1), some (.int w), some (.int 0), some (.int 0)], [])) (h' := (sh0, σ)) rfl ?_
  refine px_W.loop (8) (fun i => ((4, [some (.ref 1), some (.int w), some (.int (mk (fun a => decide ((σ 6 a &&& (w ^^^ -1)) = 0)) i)), some (.int (cI i))], []), (sh0, σ))) (fun _ => True) (trivial) (fun i hi hIi ki => ?_) (fun hIi => ?_)
  · refine px_W.run 2 (f' := (7, [some (.ref 1), some (.int w), some (.int (mk (fun a => decide ((σ 6 a &&& (w ^^^ -1)) = 0)) i)), some (.int (cI i))], [.int 8, .int (cI i)])) (h' := (sh0, σ)) rfl ?_
    refine px_W.icmp_ge rfl (fun c1 => absurd c1 (ge_no 8 hi (by decide))) (fun c1 => ?_)
    refine px_W.run 3 (f' := (15, [some (.ref 1), some (.int w), some (.int (mk (fun a => decide ((σ 6 a &&& (w ^^^ -1)) = 0)) i)), some (.int (cI i))], [.int (cI i), .ref 6])) (h' := (sh0, σ)) rfl ?_
    refine px_W.iald rfl rfl (i := i) (cI_n _) (hi) (by decide) ?_
    refine px_W.run 4 (f' := (20, [some (.ref 1), some (.int w), some (.int (mk (fun a => decide ((σ 6 a &&& (w ^^^ -1)) = 0)) i)), some (.int (cI i))], [.int ((σ 6 i) &&& (w ^^^ (-1)))])) (h' := (sh0, σ)) rfl ?_
    refine px_W.if_ne rfl (fun c2 => ?_) (fun c2 => ?_)
    · refine px_W.run 8 (f' := (4, [some (.ref 1), some (.int w), some (.int ((mk (fun a => decide ((σ 6 a &&& (w ^^^ -1)) = 0)) i) ||| (1 <<< ((cI i) &&& 31)))), some (.int ((cI i) + 1))], [])) (h' := (sh0, σ)) rfl ?_
      exact px_W.to (by simp_all [mk, cI, on]) (ki trivial)
    · refine px_W.run 2 (f' := (4, [some (.ref 1), some (.int w), some (.int (mk (fun a => decide ((σ 6 a &&& (w ^^^ -1)) = 0)) i)), some (.int ((cI i) + 1))], [])) (h' := (sh0, σ)) rfl ?_
      exact px_W.to (by simp_all [mk, cI, on]) (ki trivial)
  · refine px_W.run 2 (f' := (7, [some (.ref 1), some (.int w), some (.int (mk (fun a => decide ((σ 6 a &&& (w ^^^ -1)) = 0)) 8)), some (.int (cI 8))], [.int 8, .int (cI 8)])) (h' := (sh0, σ)) rfl ?_
    refine px_W.icmp_ge rfl (fun c3 => ?_) (fun c3 => absurd (ge_yes 8 (by decide)) c3)
    refine px_W.run 1 (f' := (36, [some (.ref 1), some (.int w), some (.int (mk (fun a => decide ((σ 6 a &&& (w ^^^ -1)) = 0)) 8)), some (.int (cI 8))], [.int (mk (fun a => decide ((σ 6 a &&& (w ^^^ -1)) = 0)) 8)])) (h' := (sh0, σ)) rfl ?_
    exact px_W.iret rfl rfl ⟨rfl, rfl⟩
theorem t1_givesAll {L : Nat} {xs : Nat → Int32} (σ : px_Sg) (s : Int32) {a : Nat} (ha : a < 8) : px_E L xs mX1_givesAll [.ref 1, .int s, .int (cI a)] σ (some (.int (bo (gB (σ 6) (σ 4) s a)))) σ := by
  show px_W L xs mX1_givesAll (0, [some (.ref 1), some (.int s), some (.int (cI a))], []) (sh0, σ) _
  refine px_W.run 3 (f' := (5, [some (.ref 1), some (.int s), some (.int (cI a))], [.int (cI a), .ref 6])) (h' := (sh0, σ)) rfl ?_
  refine px_W.iald rfl rfl (i := a) (cI_n _) (ha) (by decide) ?_
  refine px_W.run 2 (f' := (8, [some (.ref 1), some (.int s), some (.int (cI a))], [.int s, .ref 1, .int (σ 6 a)])) (h' := (sh0, σ)) rfl ?_
  refine px_W.cE (as := [.ref 1, .int s]) (st := [.int (σ 6 a)]) (v := some (.int (pS (σ 4) s))) (σ' := σ) rfl rfl rfl (t1_powersOf σ s) ?_
  refine px_W.run 3 (f' := (14, [some (.ref 1), some (.int s), some (.int (cI a))], [.int ((σ 6 a) &&& ((pS (σ 4) s) ^^^ (-1)))])) (h' := (sh0, σ)) rfl ?_
  refine px_W.if_ne rfl (fun c1 => ?_) (fun c1 => ?_)
  · refine px_W.run 2 (f' := (22, [some (.ref 1), some (.int s), some (.int (cI a))], [.int 1])) (h' := (sh0, σ)) rfl ?_
    exact px_W.zret rfl rfl (by simp) ⟨by simp_all [bo, gB, hb, on, cf], rfl⟩
  · refine px_W.run 1 (f' := (22, [some (.ref 1), some (.int s), some (.int (cI a))], [.int 0])) (h' := (sh0, σ)) rfl ?_
    exact px_W.zret rfl rfl (by simp) ⟨by simp_all [bo, gB, hb, on, cf], rfl⟩
theorem t1_partsThatGive {L : Nat} {xs : Nat → Int32} (σ : px_Sg) (w : Int32) : px_E L xs mX1_partsThatGive [.ref 1, .int w] σ (some (.int (alS (σ 4) w))) σ := by
  show px_W L xs mX1_partsThatGive (0, [some (.ref 1), some (.int w), none, none], []) (sh0, σ) _
  refine px_W.run 4 (f' := (4, [some (.ref 1), some (.int w), some (.int 0), some (.int 0)], [])) (h' := (sh0, σ)) rfl ?_
  refine px_W.loop (8) (fun i => ((4, [some (.ref 1), some (.int w), some (.int (mk (fun k => decide ((w &&& (σ 4 k ^^^ -1)) = 0)) i)), some (.int (cI i))], []), (sh0, σ))) (fun _ => True) (trivial) (fun i hi hIi ki => ?_) (fun hIi => ?_)
  · refine px_W.run 2 (f' := (7, [some (.ref 1), some (.int w), some (.int (mk (fun k => decide ((w &&& (σ 4 k ^^^ -1)) = 0)) i)), some (.int (cI i))], [.int 8, .int (cI i)])) (h' := (sh0, σ)) rfl ?_
    refine px_W.icmp_ge rfl (fun c1 => absurd c1 (ge_no 8 hi (by decide))) (fun c1 => ?_)
    refine px_W.run 4 (f' := (16, [some (.ref 1), some (.int w), some (.int (mk (fun k => decide ((w &&& (σ 4 k ^^^ -1)) = 0)) i)), some (.int (cI i))], [.int (cI i), .ref 4, .int w])) (h' := (sh0, σ)) rfl ?_
    refine px_W.iald rfl rfl (i := i) (cI_n _) (hi) (by decide) ?_
    refine px_W.run 3 (f' := (20, [some (.ref 1), some (.int w), some (.int (mk (fun k => decide ((w &&& (σ 4 k ^^^ -1)) = 0)) i)), some (.int (cI i))], [.int (w &&& ((σ 4 i) ^^^ (-1)))])) (h' := (sh0, σ)) rfl ?_
    refine px_W.if_ne rfl (fun c2 => ?_) (fun c2 => ?_)
    · refine px_W.run 8 (f' := (4, [some (.ref 1), some (.int w), some (.int ((mk (fun k => decide ((w &&& (σ 4 k ^^^ -1)) = 0)) i) ||| (1 <<< ((cI i) &&& 31)))), some (.int ((cI i) + 1))], [])) (h' := (sh0, σ)) rfl ?_
      exact px_W.to (by simp_all [mk, cI, on]) (ki trivial)
    · refine px_W.run 2 (f' := (4, [some (.ref 1), some (.int w), some (.int (mk (fun k => decide ((w &&& (σ 4 k ^^^ -1)) = 0)) i)), some (.int ((cI i) + 1))], [])) (h' := (sh0, σ)) rfl ?_
      exact px_W.to (by simp_all [mk, cI, on]) (ki trivial)
  · refine px_W.run 2 (f' := (7, [some (.ref 1), some (.int w), some (.int (mk (fun k => decide ((w &&& (σ 4 k ^^^ -1)) = 0)) 8)), some (.int (cI 8))], [.int 8, .int (cI 8)])) (h' := (sh0, σ)) rfl ?_
    refine px_W.icmp_ge rfl (fun c3 => ?_) (fun c3 => absurd (ge_yes 8 (by decide)) c3)
    refine px_W.run 1 (f' := (36, [some (.ref 1), some (.int w), some (.int (mk (fun k => decide ((w &&& (σ 4 k ^^^ -1)) = 0)) 8)), some (.int (cI 8))], [.int (mk (fun k => decide ((w &&& (σ 4 k ^^^ -1)) = 0)) 8)])) (h' := (sh0, σ)) rfl ?_
    exact px_W.iret rfl rfl ⟨rfl, rfl⟩
theorem t1_isPicture {L : Nat} {xs : Nat → Int32} (σ : px_Sg) (s : Int32) : px_E L xs mX1_isPicture [.ref 1, .int s] σ (some (.int (bo (cS (σ 3) s)))) σ := by
  show px_W L xs mX1_isPicture (0, [some (.ref 1), some (.int s), none], []) (sh0, σ) _
  refine px_W.run 2 (f' := (2, [some (.ref 1), some (.int s), some (.int 0)], [])) (h' := (sh0, σ)) rfl ?_
  refine px_W.loop (8) (fun i => ((2, [some (.ref 1), some (.int s), some (.int (cI i))], []), (sh0, σ))) (fun i => clB (σ 3) s i = true) (rfl) (fun i hi hIi ki => ?_) (fun hIi => ?_)
  · refine px_W.run 2 (f' := (5, [some (.ref 1), some (.int s), some (.int (cI i))], [.int 8, .int (cI i)])) (h' := (sh0, σ)) rfl ?_
    refine px_W.icmp_ge rfl (fun c1 => absurd c1 (ge_no 8 hi (by decide))) (fun c1 => ?_)
    refine px_W.run 5 (f' := (13, [some (.ref 1), some (.int s), some (.int (cI i))], [.int (s &&& (1 <<< ((cI i) &&& 31)))])) (h' := (sh0, σ)) rfl ?_
    refine px_W.if_eq rfl (fun c2 => ?_) (fun c2 => ?_)
    · refine px_W.run 2 (f' := (2, [some (.ref 1), some (.int s), some (.int ((cI i) + 1))], [])) (h' := (sh0, σ)) rfl ?_
      exact px_W.to (rfl) (ki (by simp_all [clB, hb, on]))
    · refine px_W.run 3 (f' := (21, [some (.ref 1), some (.int s), some (.int (cI i))], [.int (cI i), .ref 3])) (h' := (sh0, σ)) rfl ?_
      refine px_W.iald rfl rfl (i := i) (cI_n _) (hi) (by decide) ?_
      refine px_W.run 4 (f' := (26, [some (.ref 1), some (.int s), some (.int (cI i))], [.int ((σ 3 i) &&& (s ^^^ (-1)))])) (h' := (sh0, σ)) rfl ?_
      refine px_W.if_eq rfl (fun c3 => ?_) (fun c3 => ?_)
      · refine px_W.run 2 (f' := (2, [some (.ref 1), some (.int s), some (.int ((cI i) + 1))], [])) (h' := (sh0, σ)) rfl ?_
        exact px_W.to (rfl) (ki (by simp_all [clB, hb, on]))
      · refine px_W.run 1 (f' := (30, [some (.ref 1), some (.int s), some (.int (cI i))], [.int 0])) (h' := (sh0, σ)) rfl ?_
        exact px_W.zret rfl rfl (by simp) ⟨by rw [cS_no hi (by assumption) (by assumption)]; rfl, rfl⟩
  · refine px_W.run 2 (f' := (5, [some (.ref 1), some (.int s), some (.int (cI 8))], [.int 8, .int (cI 8)])) (h' := (sh0, σ)) rfl ?_
    refine px_W.icmp_ge rfl (fun c4 => ?_) (fun c4 => absurd (ge_yes 8 (by decide)) c4)
    refine px_W.run 1 (f' := (38, [some (.ref 1), some (.int s), some (.int (cI 8))], [.int 1])) (h' := (sh0, σ)) rfl ?_
    exact px_W.zret rfl rfl (by simp) ⟨by rw [cS, hIi]; rfl, rfl⟩
theorem t1_canFinish {L : Nat} {xs : Nat → Int32} (σ : px_Sg) {k : Nat} (hk : k < 8) (s : Int32) : px_E L xs mX1_canFinish [.ref 1, .int (cI k), .int s] σ (some (.int (bo (cf (σ 3) s k)))) σ := by
  show px_W L xs mX1_canFinish (0, [some (.ref 1), some (.int (cI k)), some (.int s)], []) (sh0, σ) _
  refine px_W.run 5 (f' := (5, [some (.ref 1), some (.int (cI k)), some (.int s)], [.int (s &&& (1 <<< ((cI k) &&& 31)))])) (h' := (sh0, σ)) rfl ?_
  refine px_W.if_ne rfl (fun c1 => ?_) (fun c1 => ?_)
  · refine px_W.run 3 (f' := (13, [some (.ref 1), some (.int (cI k)), some (.int s)], [.int (cI k), .ref 3])) (h' := (sh0, σ)) rfl ?_
    refine px_W.iald rfl rfl (i := k) (cI_n _) (hk) (by decide) ?_
    refine px_W.run 4 (f' := (18, [some (.ref 1), some (.int (cI k)), some (.int s)], [.int ((σ 3 k) &&& (s ^^^ (-1)))])) (h' := (sh0, σ)) rfl ?_
    refine px_W.if_ne rfl (fun c2 => ?_) (fun c2 => ?_)
    · refine px_W.run 2 (f' := (26, [some (.ref 1), some (.int (cI k)), some (.int s)], [.int 1])) (h' := (sh0, σ)) rfl ?_
      exact px_W.zret rfl rfl (by simp) ⟨by simp_all [bo, gB, hb, on, cf], rfl⟩
    · refine px_W.run 1 (f' := (26, [some (.ref 1), some (.int (cI k)), some (.int s)], [.int 0])) (h' := (sh0, σ)) rfl ?_
      exact px_W.zret rfl rfl (by simp) ⟨by simp_all [bo, gB, hb, on, cf], rfl⟩
  · refine px_W.run 1 (f' := (26, [some (.ref 1), some (.int (cI k)), some (.int s)], [.int 0])) (h' := (sh0, σ)) rfl ?_
    exact px_W.zret rfl rfl (by simp) ⟨by simp_all [bo, gB, hb, on, cf], rfl⟩
theorem t1_hoursToPaint {L : Nat} {xs : Nat → Int32} (σ : px_Sg) (s : Int32) : px_E L xs mX1_hoursToPaint [.ref 1, .int s] σ (some (.int (coS (σ 2) (σ 5) s))) σ := by
  show px_W L xs mX1_hoursToPaint (0, [some (.ref 1), some (.int s), none, none], []) (sh0, σ) _
  refine px_W.run 4 (f' := (4, [some (.ref 1), some (.int s), some (.int 0), some (.int 0)], [])) (h' := (sh0, σ)) rfl ?_
  refine px_W.loop (8) (fun i => ((4, [some (.ref 1), some (.int s), some (.int (co (σ 2) (σ 5) s i)), some (.int (cI i))], []), (sh0, σ))) (fun _ => True) (trivial) (fun i hi hIi ki => ?_) (fun hIi => ?_)
  · refine px_W.run 2 (f' := (7, [some (.ref 1), some (.int s), some (.int (co (σ 2) (σ 5) s i)), some (.int (cI i))], [.int 8, .int (cI i)])) (h' := (sh0, σ)) rfl ?_
    refine px_W.icmp_ge rfl (fun c1 => absurd c1 (ge_no 8 hi (by decide))) (fun c1 => ?_)
    refine px_W.run 5 (f' := (15, [some (.ref 1), some (.int s), some (.int (co (σ 2) (σ 5) s i)), some (.int (cI i))], [.int (s &&& (1 <<< ((cI i) &&& 31)))])) (h' := (sh0, σ)) rfl ?_
    refine px_W.if_eq rfl (fun c2 => ?_) (fun c2 => ?_)
    · refine px_W.run 2 (f' := (4, [some (.ref 1), some (.int s), some (.int (co (σ 2) (σ 5) s i)), some (.int ((cI i) + 1))], [])) (h' := (sh0, σ)) rfl ?_
      exact px_W.to (by simp_all [co, hb, cI, on]) (ki trivial)
    · refine px_W.run 4 (f' := (24, [some (.ref 1), some (.int s), some (.int (co (σ 2) (σ 5) s i)), some (.int (cI i))], [.int (cI i), .ref 2, .int (co (σ 2) (σ 5) s i)])) (h' := (sh0, σ)) rfl ?_
      refine px_W.iald rfl rfl (i := i) (cI_n _) (hi) (by decide) ?_
      refine px_W.run 3 (f' := (30, [some (.ref 1), some (.int s), some (.int (co (σ 2) (σ 5) s i)), some (.int (cI i))], [.int (cI i), .ref 5, .int (σ 2 i), .int (co (σ 2) (σ 5) s i)])) (h' := (sh0, σ)) rfl ?_
      refine px_W.iald rfl rfl (i := i) (cI_n _) (hi) (by decide) ?_
      refine px_W.run 5 (f' := (4, [some (.ref 1), some (.int s), some (.int ((co (σ 2) (σ 5) s i) + ((σ 2 i) - (σ 5 i)))), some (.int ((cI i) + 1))], [])) (h' := (sh0, σ)) rfl ?_
      exact px_W.to (by simp_all [co, hb, cI, on]) (ki trivial)
  · refine px_W.run 2 (f' := (7, [some (.ref 1), some (.int s), some (.int (co (σ 2) (σ 5) s 8)), some (.int (cI 8))], [.int 8, .int (cI 8)])) (h' := (sh0, σ)) rfl ?_
    refine px_W.icmp_ge rfl (fun c3 => ?_) (fun c3 => absurd (ge_yes 8 (by decide)) c3)
    refine px_W.run 1 (f' := (41, [some (.ref 1), some (.int s), some (.int (co (σ 2) (σ 5) s 8)), some (.int (cI 8))], [.int (co (σ 2) (σ 5) s 8)])) (h' := (sh0, σ)) rfl ?_
    exact px_W.iret rfl rfl ⟨rfl, rfl⟩
theorem t1_fallingWith {L : Nat} {xs : Nat → Int32} (σ : px_Sg) (s : Int32) : px_E L xs mX1_fallingWith [.ref 1, .int s] σ (some (.int (abS (σ 3) s))) σ := by
  show px_W L xs mX1_fallingWith (0, [some (.ref 1), some (.int s), none, none], []) (sh0, σ) _
  refine px_W.run 4 (f' := (4, [some (.ref 1), some (.int s), some (.int s), some (.int 0)], [])) (h' := (sh0, σ)) rfl ?_
  refine px_W.loop (8) (fun i => ((4, [some (.ref 1), some (.int s), some (.int (ab (σ 3) s i)), some (.int (cI i))], []), (sh0, σ))) (fun _ => True) (trivial) (fun i hi hIi ki => ?_) (fun hIi => ?_)
  · refine px_W.run 2 (f' := (7, [some (.ref 1), some (.int s), some (.int (ab (σ 3) s i)), some (.int (cI i))], [.int 8, .int (cI i)])) (h' := (sh0, σ)) rfl ?_
    refine px_W.icmp_ge rfl (fun c1 => absurd c1 (ge_no 8 hi (by decide))) (fun c1 => ?_)
    refine px_W.run 3 (f' := (15, [some (.ref 1), some (.int s), some (.int (ab (σ 3) s i)), some (.int (cI i))], [.int (cI i), .ref 3])) (h' := (sh0, σ)) rfl ?_
    refine px_W.iald rfl rfl (i := i) (cI_n _) (hi) (by decide) ?_
    refine px_W.run 2 (f' := (18, [some (.ref 1), some (.int s), some (.int (ab (σ 3) s i)), some (.int (cI i))], [.int ((σ 3 i) &&& (ab (σ 3) s i))])) (h' := (sh0, σ)) rfl ?_
    refine px_W.if_eq rfl (fun c2 => ?_) (fun c2 => ?_)
    · refine px_W.run 2 (f' := (4, [some (.ref 1), some (.int s), some (.int (ab (σ 3) s i)), some (.int ((cI i) + 1))], [])) (h' := (sh0, σ)) rfl ?_
      exact px_W.to (by simp_all [ab, cI, on]) (ki trivial)
    · refine px_W.run 8 (f' := (4, [some (.ref 1), some (.int s), some (.int ((ab (σ 3) s i) ||| (1 <<< ((cI i) &&& 31)))), some (.int ((cI i) + 1))], [])) (h' := (sh0, σ)) rfl ?_
      exact px_W.to (by simp_all [ab, cI, on]) (ki trivial)
  · refine px_W.run 2 (f' := (7, [some (.ref 1), some (.int s), some (.int (ab (σ 3) s 8)), some (.int (cI 8))], [.int 8, .int (cI 8)])) (h' := (sh0, σ)) rfl ?_
    refine px_W.icmp_ge rfl (fun c3 => ?_) (fun c3 => absurd (ge_yes 8 (by decide)) c3)
    refine px_W.run 1 (f' := (34, [some (.ref 1), some (.int s), some (.int (ab (σ 3) s 8)), some (.int (cI 8))], [.int (ab (σ 3) s 8)])) (h' := (sh0, σ)) rfl ?_
    exact px_W.iret rfl rfl ⟨rfl, rfl⟩
theorem t1_withAllAbove {L : Nat} {xs : Nat → Int32} (σ : px_Sg) {k : Nat} : px_E L xs mX1_withAllAbove [.ref 1, .int (cI k)] σ (some (.int (abS (σ 3) (on k)))) σ := by
  show px_W L xs mX1_withAllAbove (0, [some (.ref 1), some (.int (cI k))], []) (sh0, σ) _
  refine px_W.run 4 (f' := (4, [some (.ref 1), some (.int (cI k))], [.int (1 <<< ((cI k) &&& 31)), .ref 1])) (h' := (sh0, σ)) rfl ?_
  refine px_W.cE (as := [.ref 1, .int (1 <<< ((cI k) &&& 31))]) (st := []) (v := some (.int (abS (σ 3) (1 <<< ((cI k) &&& 31))))) (σ' := σ) rfl rfl rfl (t1_fallingWith σ (1 <<< ((cI k) &&& 31))) ?_
  exact px_W.iret rfl rfl ⟨rfl, rfl⟩
theorem t1_powersThereAre {L : Nat} {xs : Nat → Int32} (σ : px_Sg) : px_E L xs mX1_powersThereAre [.ref 1] σ (some (.int (pw (σ 1 9) (σ 2) (σ 5) (σ 4)))) σ := by
  show px_W L xs mX1_powersThereAre (0, [some (.ref 1)], []) (sh0, σ) _
  refine px_W.run 2 (f' := (4, [some (.ref 1)], [.int (σ 1 9)])) (h' := (sh0, σ)) rfl ?_
  refine px_W.if_eq rfl (fun c1 => ?_) (fun c1 => ?_)
  · refine px_W.run 1 (f' := (21, [some (.ref 1)], [.int 255])) (h' := (sh0, σ)) rfl ?_
    exact px_W.iret rfl rfl ⟨by simp_all [pw], rfl⟩
  · refine px_W.run 2 (f' := (9, [some (.ref 1)], [.ref 1, .ref 1])) (h' := (sh0, σ)) rfl ?_
    refine px_W.cE (as := [.ref 1]) (st := [.ref 1]) (v := some (.int (dS (σ 2) (σ 5)))) (σ' := σ) rfl rfl rfl (t1_doneParts σ) ?_
    refine px_W.cE (as := [.ref 1, .int (dS (σ 2) (σ 5))]) (st := []) (v := some (.int (pS (σ 4) (dS (σ 2) (σ 5))))) (σ' := σ) rfl rfl rfl (t1_powersOf σ (dS (σ 2) (σ 5))) ?_
    refine px_W.run 1 (f' := (21, [some (.ref 1)], [.int (pS (σ 4) (dS (σ 2) (σ 5)))])) (h' := (sh0, σ)) rfl ?_
    exact px_W.iret rfl rfl ⟨by simp_all [pw], rfl⟩
theorem t1_whyNotMake {L : Nat} {xs : Nat → Int32} (σ : px_Sg) {a : Nat} (ha : a < 8) : px_E L xs mX1_whyNotMake [.ref 1, .int (cI a)] σ (some (.int (wM (σ 1 8) (pw (σ 1 9) (σ 2) (σ 5) (σ 4)) (σ 6) a))) σ := by
  show px_W L xs mX1_whyNotMake (0, [some (.ref 1), some (.int (cI a))], []) (sh0, σ) _
  refine px_W.run 6 (f' := (8, [some (.ref 1), some (.int (cI a))], [.int ((σ 1 8) &&& (1 <<< ((cI a) &&& 31)))])) (h' := (sh0, σ)) rfl ?_
  refine px_W.if_eq rfl (fun c1 => ?_) (fun c1 => ?_)
  · refine px_W.run 3 (f' := (18, [some (.ref 1), some (.int (cI a))], [.int (cI a), .ref 6])) (h' := (sh0, σ)) rfl ?_
    refine px_W.iald rfl rfl (i := a) (cI_n _) (ha) (by decide) ?_
    refine px_W.run 1 (f' := (20, [some (.ref 1), some (.int (cI a))], [.ref 1, .int (σ 6 a)])) (h' := (sh0, σ)) rfl ?_
    refine px_W.cE (as := [.ref 1]) (st := [.int (σ 6 a)]) (v := some (.int (pw (σ 1 9) (σ 2) (σ 5) (σ 4)))) (σ' := σ) rfl rfl rfl (t1_powersThereAre σ) ?_
    refine px_W.run 3 (f' := (26, [some (.ref 1), some (.int (cI a))], [.int ((σ 6 a) &&& ((pw (σ 1 9) (σ 2) (σ 5) (σ 4)) ^^^ (-1)))])) (h' := (sh0, σ)) rfl ?_
    refine px_W.if_eq rfl (fun c2 => ?_) (fun c2 => ?_)
    · refine px_W.run 1 (f' := (35, [some (.ref 1), some (.int (cI a))], [.int 0])) (h' := (sh0, σ)) rfl ?_
      exact px_W.iret rfl rfl ⟨by simp_all [wM, hb, on], rfl⟩
    · refine px_W.run 2 (f' := (35, [some (.ref 1), some (.int (cI a))], [.int 6])) (h' := (sh0, σ)) rfl ?_
      exact px_W.iret rfl rfl ⟨by simp_all [wM, hb, on], rfl⟩
  · refine px_W.run 1 (f' := (12, [some (.ref 1), some (.int (cI a))], [.int 5])) (h' := (sh0, σ)) rfl ?_
    exact px_W.iret rfl rfl ⟨by simp_all [wM, hb, on], rfl⟩
theorem t1_whyNot4 {L : Nat} {xs : Nat → Int32} (σ : px_Sg) {a : Nat} (ha : a < 8) : px_E L xs mX1_whyNot [.ref 1, .int 4, .int (cI a)] σ (some (.int (wM (σ 1 8) (pw (σ 1 9) (σ 2) (σ 5) (σ 4)) (σ 6) a))) σ := by
  show px_W L xs mX1_whyNot (0, [some (.ref 1), some (.int 4), some (.int (cI a))], []) (sh0, σ) _
  refine px_W.run 1 (f' := (1, [some (.ref 1), some (.int 4), some (.int (cI a))], [.int 4])) (h' := (sh0, σ)) rfl ?_
  refine px_W.tsw (tg := 53) rfl (by decide) ?_
  refine px_W.run 2 (f' := (55, [some (.ref 1), some (.int 4), some (.int (cI a))], [.int (cI a), .ref 1])) (h' := (sh0, σ)) rfl ?_
  refine px_W.cE (as := [.ref 1, .int (cI a)]) (st := []) (v := some (.int (wM (σ 1 8) (pw (σ 1 9) (σ 2) (σ 5) (σ 4)) (σ 6) a))) (σ' := σ) rfl rfl rfl (t1_whyNotMake σ ha) ?_
  exact px_W.iret rfl rfl ⟨rfl, rfl⟩

theorem t10_doneParts {L : Nat} {xs : Nat → Int32} (σ : px_Sg) : px_E L xs mX1_doneParts [.ref 10] σ (some (.int (dS (σ 11) (σ 14)))) σ := by
  show px_W L xs mX1_doneParts (0, [some (.ref 10), none, none], []) (sh0, σ) _
  refine px_W.run 4 (f' := (4, [some (.ref 10), some (.int 0), some (.int 0)], [])) (h' := (sh0, σ)) rfl ?_
  refine px_W.loop (8) (fun i => ((4, [some (.ref 10), some (.int (mk (fun k => decide (σ 14 k = σ 11 k)) i)), some (.int (cI i))], []), (sh0, σ))) (fun _ => True) (trivial) (fun i hi hIi ki => ?_) (fun hIi => ?_)
  · refine px_W.run 2 (f' := (7, [some (.ref 10), some (.int (mk (fun k => decide (σ 14 k = σ 11 k)) i)), some (.int (cI i))], [.int 8, .int (cI i)])) (h' := (sh0, σ)) rfl ?_
    refine px_W.icmp_ge rfl (fun c1 => absurd c1 (ge_no 8 hi (by decide))) (fun c1 => ?_)
    refine px_W.run 3 (f' := (15, [some (.ref 10), some (.int (mk (fun k => decide (σ 14 k = σ 11 k)) i)), some (.int (cI i))], [.int (cI i), .ref 14])) (h' := (sh0, σ)) rfl ?_
    refine px_W.iald rfl rfl (i := i) (cI_n _) (hi) (by decide) ?_
    refine px_W.run 3 (f' := (21, [some (.ref 10), some (.int (mk (fun k => decide (σ 14 k = σ 11 k)) i)), some (.int (cI i))], [.int (cI i), .ref 11, .int (σ 14 i)])) (h' := (sh0, σ)) rfl ?_
    refine px_W.iald rfl rfl (i := i) (cI_n _) (hi) (by decide) ?_
    refine px_W.icmp_ne rfl (fun c2 => ?_) (fun c2 => ?_)
    · refine px_W.run 8 (f' := (4, [some (.ref 10), some (.int ((mk (fun k => decide (σ 14 k = σ 11 k)) i) ||| (1 <<< ((cI i) &&& 31)))), some (.int ((cI i) + 1))], [])) (h' := (sh0, σ)) rfl ?_
      exact px_W.to (by simp_all [mk, bo, cI, on]) (ki trivial)
    · refine px_W.run 2 (f' := (4, [some (.ref 10), some (.int (mk (fun k => decide (σ 14 k = σ 11 k)) i)), some (.int ((cI i) + 1))], [])) (h' := (sh0, σ)) rfl ?_
      exact px_W.to (by simp_all [mk, bo, cI, on]) (ki trivial)
  · refine px_W.run 2 (f' := (7, [some (.ref 10), some (.int (mk (fun k => decide (σ 14 k = σ 11 k)) 8)), some (.int (cI 8))], [.int 8, .int (cI 8)])) (h' := (sh0, σ)) rfl ?_
    refine px_W.icmp_ge rfl (fun c3 => ?_) (fun c3 => absurd (ge_yes 8 (by decide)) c3)
    refine px_W.run 1 (f' := (38, [some (.ref 10), some (.int (mk (fun k => decide (σ 14 k = σ 11 k)) 8)), some (.int (cI 8))], [.int (mk (fun k => decide (σ 14 k = σ 11 k)) 8)])) (h' := (sh0, σ)) rfl ?_
    exact px_W.iret rfl rfl ⟨rfl, rfl⟩
theorem t10_powersOf {L : Nat} {xs : Nat → Int32} (σ : px_Sg) (s : Int32) : px_E L xs mX1_powersOf [.ref 10, .int s] σ (some (.int (pS (σ 13) s))) σ := by
  show px_W L xs mX1_powersOf (0, [some (.ref 10), some (.int s), none, none], []) (sh0, σ) _
  refine px_W.run 4 (f' := (4, [some (.ref 10), some (.int s), some (.int 0), some (.int 0)], [])) (h' := (sh0, σ)) rfl ?_
  refine px_W.loop (8) (fun i => ((4, [some (.ref 10), some (.int s), some (.int (po (σ 13) s i)), some (.int (cI i))], []), (sh0, σ))) (fun _ => True) (trivial) (fun i hi hIi ki => ?_) (fun hIi => ?_)
  · refine px_W.run 2 (f' := (7, [some (.ref 10), some (.int s), some (.int (po (σ 13) s i)), some (.int (cI i))], [.int 8, .int (cI i)])) (h' := (sh0, σ)) rfl ?_
    refine px_W.icmp_ge rfl (fun c1 => absurd c1 (ge_no 8 hi (by decide))) (fun c1 => ?_)
    refine px_W.run 5 (f' := (15, [some (.ref 10), some (.int s), some (.int (po (σ 13) s i)), some (.int (cI i))], [.int (s &&& (1 <<< ((cI i) &&& 31)))])) (h' := (sh0, σ)) rfl ?_
    refine px_W.if_eq rfl (fun c2 => ?_) (fun c2 => ?_)
    · refine px_W.run 2 (f' := (4, [some (.ref 10), some (.int s), some (.int (po (σ 13) s i)), some (.int ((cI i) + 1))], [])) (h' := (sh0, σ)) rfl ?_
      exact px_W.to (by simp_all [po, hb, cI, on]) (ki trivial)
    · refine px_W.run 4 (f' := (24, [some (.ref 10), some (.int s), some (.int (po (σ 13) s i)), some (.int (cI i))], [.int (cI i), .ref 13, .int (po (σ 13) s i)])) (h' := (sh0, σ)) rfl ?_
      refine px_W.iald rfl rfl (i := i) (cI_n _) (hi) (by decide) ?_
      refine px_W.run 4 (f' := (4, [some (.ref 10), some (.int s), some (.int ((po (σ 13) s i) ||| (σ 13 i))), some (.int ((cI i) + 1))], [])) (h' := (sh0, σ)) rfl ?_
      exact px_W.to (by simp_all [po, hb, cI, on]) (ki trivial)
  · refine px_W.run 2 (f' := (7, [some (.ref 10), some (.int s), some (.int (po (σ 13) s 8)), some (.int (cI 8))], [.int 8, .int (cI 8)])) (h' := (sh0, σ)) rfl ?_
    refine px_W.icmp_ge rfl (fun c3 => ?_) (fun c3 => absurd (ge_yes 8 (by decide)) c3)
    refine px_W.run 1 (f' := (34, [some (.ref 10), some (.int s), some (.int (po (σ 13) s 8)), some (.int (cI 8))], [.int (po (σ 13) s 8)])) (h' := (sh0, σ)) rfl ?_
    exact px_W.iret rfl rfl ⟨rfl, rfl⟩
theorem t10_actsWithin {L : Nat} {xs : Nat → Int32} (σ : px_Sg) (w : Int32) : px_E L xs mX1_actsWithin [.ref 10, .int w] σ (some (.int (aS (σ 15) w))) σ := by
  show px_W L xs mX1_actsWithin (0, [some (.ref 10), some (.int w), none, none], []) (sh0, σ) _
  refine px_W.run 4 (f' := (4, [some (.ref 10), some (.int w), some (.int 0), some (.int 0)], [])) (h' := (sh0, σ)) rfl ?_
  refine px_W.loop (8) (fun i => ((4, [some (.ref 10), some (.int w), some (.int (mk (fun a => decide ((σ 15 a &&& (w ^^^ -1)) = 0)) i)), some (.int (cI i))], []), (sh0, σ))) (fun _ => True) (trivial) (fun i hi hIi ki => ?_) (fun hIi => ?_)
  · refine px_W.run 2 (f' := (7, [some (.ref 10), some (.int w), some (.int (mk (fun a => decide ((σ 15 a &&& (w ^^^ -1)) = 0)) i)), some (.int (cI i))], [.int 8, .int (cI i)])) (h' := (sh0, σ)) rfl ?_
    refine px_W.icmp_ge rfl (fun c1 => absurd c1 (ge_no 8 hi (by decide))) (fun c1 => ?_)
    refine px_W.run 3 (f' := (15, [some (.ref 10), some (.int w), some (.int (mk (fun a => decide ((σ 15 a &&& (w ^^^ -1)) = 0)) i)), some (.int (cI i))], [.int (cI i), .ref 15])) (h' := (sh0, σ)) rfl ?_
    refine px_W.iald rfl rfl (i := i) (cI_n _) (hi) (by decide) ?_
    refine px_W.run 4 (f' := (20, [some (.ref 10), some (.int w), some (.int (mk (fun a => decide ((σ 15 a &&& (w ^^^ -1)) = 0)) i)), some (.int (cI i))], [.int ((σ 15 i) &&& (w ^^^ (-1)))])) (h' := (sh0, σ)) rfl ?_
    refine px_W.if_ne rfl (fun c2 => ?_) (fun c2 => ?_)
    · refine px_W.run 8 (f' := (4, [some (.ref 10), some (.int w), some (.int ((mk (fun a => decide ((σ 15 a &&& (w ^^^ -1)) = 0)) i) ||| (1 <<< ((cI i) &&& 31)))), some (.int ((cI i) + 1))], [])) (h' := (sh0, σ)) rfl ?_
      exact px_W.to (by simp_all [mk, cI, on]) (ki trivial)
    · refine px_W.run 2 (f' := (4, [some (.ref 10), some (.int w), some (.int (mk (fun a => decide ((σ 15 a &&& (w ^^^ -1)) = 0)) i)), some (.int ((cI i) + 1))], [])) (h' := (sh0, σ)) rfl ?_
      exact px_W.to (by simp_all [mk, cI, on]) (ki trivial)
  · refine px_W.run 2 (f' := (7, [some (.ref 10), some (.int w), some (.int (mk (fun a => decide ((σ 15 a &&& (w ^^^ -1)) = 0)) 8)), some (.int (cI 8))], [.int 8, .int (cI 8)])) (h' := (sh0, σ)) rfl ?_
    refine px_W.icmp_ge rfl (fun c3 => ?_) (fun c3 => absurd (ge_yes 8 (by decide)) c3)
    refine px_W.run 1 (f' := (36, [some (.ref 10), some (.int w), some (.int (mk (fun a => decide ((σ 15 a &&& (w ^^^ -1)) = 0)) 8)), some (.int (cI 8))], [.int (mk (fun a => decide ((σ 15 a &&& (w ^^^ -1)) = 0)) 8)])) (h' := (sh0, σ)) rfl ?_
    exact px_W.iret rfl rfl ⟨rfl, rfl⟩
theorem t10_givesAll {L : Nat} {xs : Nat → Int32} (σ : px_Sg) (s : Int32) {a : Nat} (ha : a < 8) : px_E L xs mX1_givesAll [.ref 10, .int s, .int (cI a)] σ (some (.int (bo (gB (σ 15) (σ 13) s a)))) σ := by
  show px_W L xs mX1_givesAll (0, [some (.ref 10), some (.int s), some (.int (cI a))], []) (sh0, σ) _
  refine px_W.run 3 (f' := (5, [some (.ref 10), some (.int s), some (.int (cI a))], [.int (cI a), .ref 15])) (h' := (sh0, σ)) rfl ?_
  refine px_W.iald rfl rfl (i := a) (cI_n _) (ha) (by decide) ?_
  refine px_W.run 2 (f' := (8, [some (.ref 10), some (.int s), some (.int (cI a))], [.int s, .ref 10, .int (σ 15 a)])) (h' := (sh0, σ)) rfl ?_
  refine px_W.cE (as := [.ref 10, .int s]) (st := [.int (σ 15 a)]) (v := some (.int (pS (σ 13) s))) (σ' := σ) rfl rfl rfl (t10_powersOf σ s) ?_
  refine px_W.run 3 (f' := (14, [some (.ref 10), some (.int s), some (.int (cI a))], [.int ((σ 15 a) &&& ((pS (σ 13) s) ^^^ (-1)))])) (h' := (sh0, σ)) rfl ?_
  refine px_W.if_ne rfl (fun c1 => ?_) (fun c1 => ?_)
  · refine px_W.run 2 (f' := (22, [some (.ref 10), some (.int s), some (.int (cI a))], [.int 1])) (h' := (sh0, σ)) rfl ?_
    exact px_W.zret rfl rfl (by simp) ⟨by simp_all [bo, gB, hb, on, cf], rfl⟩
  · refine px_W.run 1 (f' := (22, [some (.ref 10), some (.int s), some (.int (cI a))], [.int 0])) (h' := (sh0, σ)) rfl ?_
    exact px_W.zret rfl rfl (by simp) ⟨by simp_all [bo, gB, hb, on, cf], rfl⟩
theorem t10_fallingWith {L : Nat} {xs : Nat → Int32} (σ : px_Sg) (s : Int32) : px_E L xs mX1_fallingWith [.ref 10, .int s] σ (some (.int (abS (σ 12) s))) σ := by
  show px_W L xs mX1_fallingWith (0, [some (.ref 10), some (.int s), none, none], []) (sh0, σ) _
  refine px_W.run 4 (f' := (4, [some (.ref 10), some (.int s), some (.int s), some (.int 0)], [])) (h' := (sh0, σ)) rfl ?_
  refine px_W.loop (8) (fun i => ((4, [some (.ref 10), some (.int s), some (.int (ab (σ 12) s i)), some (.int (cI i))], []), (sh0, σ))) (fun _ => True) (trivial) (fun i hi hIi ki => ?_) (fun hIi => ?_)
  · refine px_W.run 2 (f' := (7, [some (.ref 10), some (.int s), some (.int (ab (σ 12) s i)), some (.int (cI i))], [.int 8, .int (cI i)])) (h' := (sh0, σ)) rfl ?_
    refine px_W.icmp_ge rfl (fun c1 => absurd c1 (ge_no 8 hi (by decide))) (fun c1 => ?_)
    refine px_W.run 3 (f' := (15, [some (.ref 10), some (.int s), some (.int (ab (σ 12) s i)), some (.int (cI i))], [.int (cI i), .ref 12])) (h' := (sh0, σ)) rfl ?_
    refine px_W.iald rfl rfl (i := i) (cI_n _) (hi) (by decide) ?_
    refine px_W.run 2 (f' := (18, [some (.ref 10), some (.int s), some (.int (ab (σ 12) s i)), some (.int (cI i))], [.int ((σ 12 i) &&& (ab (σ 12) s i))])) (h' := (sh0, σ)) rfl ?_
    refine px_W.if_eq rfl (fun c2 => ?_) (fun c2 => ?_)
    · refine px_W.run 2 (f' := (4, [some (.ref 10), some (.int s), some (.int (ab (σ 12) s i)), some (.int ((cI i) + 1))], [])) (h' := (sh0, σ)) rfl ?_
      exact px_W.to (by simp_all [ab, cI, on]) (ki trivial)
    · refine px_W.run 8 (f' := (4, [some (.ref 10), some (.int s), some (.int ((ab (σ 12) s i) ||| (1 <<< ((cI i) &&& 31)))), some (.int ((cI i) + 1))], [])) (h' := (sh0, σ)) rfl ?_
      exact px_W.to (by simp_all [ab, cI, on]) (ki trivial)
  · refine px_W.run 2 (f' := (7, [some (.ref 10), some (.int s), some (.int (ab (σ 12) s 8)), some (.int (cI 8))], [.int 8, .int (cI 8)])) (h' := (sh0, σ)) rfl ?_
    refine px_W.icmp_ge rfl (fun c3 => ?_) (fun c3 => absurd (ge_yes 8 (by decide)) c3)
    refine px_W.run 1 (f' := (34, [some (.ref 10), some (.int s), some (.int (ab (σ 12) s 8)), some (.int (cI 8))], [.int (ab (σ 12) s 8)])) (h' := (sh0, σ)) rfl ?_
    exact px_W.iret rfl rfl ⟨rfl, rfl⟩
theorem t10_withAllAbove {L : Nat} {xs : Nat → Int32} (σ : px_Sg) {k : Nat} : px_E L xs mX1_withAllAbove [.ref 10, .int (cI k)] σ (some (.int (abS (σ 12) (on k)))) σ := by
  show px_W L xs mX1_withAllAbove (0, [some (.ref 10), some (.int (cI k))], []) (sh0, σ) _
  refine px_W.run 4 (f' := (4, [some (.ref 10), some (.int (cI k))], [.int (1 <<< ((cI k) &&& 31)), .ref 10])) (h' := (sh0, σ)) rfl ?_
  refine px_W.cE (as := [.ref 10, .int (1 <<< ((cI k) &&& 31))]) (st := []) (v := some (.int (abS (σ 12) (1 <<< ((cI k) &&& 31))))) (σ' := σ) rfl rfl rfl (t10_fallingWith σ (1 <<< ((cI k) &&& 31))) ?_
  exact px_W.iret rfl rfl ⟨rfl, rfl⟩
theorem t10_powersThereAre {L : Nat} {xs : Nat → Int32} (σ : px_Sg) : px_E L xs mX1_powersThereAre [.ref 10] σ (some (.int (pw (σ 10 9) (σ 11) (σ 14) (σ 13)))) σ := by
  show px_W L xs mX1_powersThereAre (0, [some (.ref 10)], []) (sh0, σ) _
  refine px_W.run 2 (f' := (4, [some (.ref 10)], [.int (σ 10 9)])) (h' := (sh0, σ)) rfl ?_
  refine px_W.if_eq rfl (fun c1 => ?_) (fun c1 => ?_)
  · refine px_W.run 1 (f' := (21, [some (.ref 10)], [.int 255])) (h' := (sh0, σ)) rfl ?_
    exact px_W.iret rfl rfl ⟨by simp_all [pw], rfl⟩
  · refine px_W.run 2 (f' := (9, [some (.ref 10)], [.ref 10, .ref 10])) (h' := (sh0, σ)) rfl ?_
    refine px_W.cE (as := [.ref 10]) (st := [.ref 10]) (v := some (.int (dS (σ 11) (σ 14)))) (σ' := σ) rfl rfl rfl (t10_doneParts σ) ?_
    refine px_W.cE (as := [.ref 10, .int (dS (σ 11) (σ 14))]) (st := []) (v := some (.int (pS (σ 13) (dS (σ 11) (σ 14))))) (σ' := σ) rfl rfl rfl (t10_powersOf σ (dS (σ 11) (σ 14))) ?_
    refine px_W.run 1 (f' := (21, [some (.ref 10)], [.int (pS (σ 13) (dS (σ 11) (σ 14)))])) (h' := (sh0, σ)) rfl ?_
    exact px_W.iret rfl rfl ⟨by simp_all [pw], rfl⟩
theorem t10_whyNotMake {L : Nat} {xs : Nat → Int32} (σ : px_Sg) {a : Nat} (ha : a < 8) : px_E L xs mX1_whyNotMake [.ref 10, .int (cI a)] σ (some (.int (wM (σ 10 8) (pw (σ 10 9) (σ 11) (σ 14) (σ 13)) (σ 15) a))) σ := by
  show px_W L xs mX1_whyNotMake (0, [some (.ref 10), some (.int (cI a))], []) (sh0, σ) _
  refine px_W.run 6 (f' := (8, [some (.ref 10), some (.int (cI a))], [.int ((σ 10 8) &&& (1 <<< ((cI a) &&& 31)))])) (h' := (sh0, σ)) rfl ?_
  refine px_W.if_eq rfl (fun c1 => ?_) (fun c1 => ?_)
  · refine px_W.run 3 (f' := (18, [some (.ref 10), some (.int (cI a))], [.int (cI a), .ref 15])) (h' := (sh0, σ)) rfl ?_
    refine px_W.iald rfl rfl (i := a) (cI_n _) (ha) (by decide) ?_
    refine px_W.run 1 (f' := (20, [some (.ref 10), some (.int (cI a))], [.ref 10, .int (σ 15 a)])) (h' := (sh0, σ)) rfl ?_
    refine px_W.cE (as := [.ref 10]) (st := [.int (σ 15 a)]) (v := some (.int (pw (σ 10 9) (σ 11) (σ 14) (σ 13)))) (σ' := σ) rfl rfl rfl (t10_powersThereAre σ) ?_
    refine px_W.run 3 (f' := (26, [some (.ref 10), some (.int (cI a))], [.int ((σ 15 a) &&& ((pw (σ 10 9) (σ 11) (σ 14) (σ 13)) ^^^ (-1)))])) (h' := (sh0, σ)) rfl ?_
    refine px_W.if_eq rfl (fun c2 => ?_) (fun c2 => ?_)
    · refine px_W.run 1 (f' := (35, [some (.ref 10), some (.int (cI a))], [.int 0])) (h' := (sh0, σ)) rfl ?_
      exact px_W.iret rfl rfl ⟨by simp_all [wM, hb, on], rfl⟩
    · refine px_W.run 2 (f' := (35, [some (.ref 10), some (.int (cI a))], [.int 6])) (h' := (sh0, σ)) rfl ?_
      exact px_W.iret rfl rfl ⟨by simp_all [wM, hb, on], rfl⟩
  · refine px_W.run 1 (f' := (12, [some (.ref 10), some (.int (cI a))], [.int 5])) (h' := (sh0, σ)) rfl ?_
    exact px_W.iret rfl rfl ⟨by simp_all [wM, hb, on], rfl⟩
theorem t10_whyNot4 {L : Nat} {xs : Nat → Int32} (σ : px_Sg) {a : Nat} (ha : a < 8) : px_E L xs mX1_whyNot [.ref 10, .int 4, .int (cI a)] σ (some (.int (wM (σ 10 8) (pw (σ 10 9) (σ 11) (σ 14) (σ 13)) (σ 15) a))) σ := by
  show px_W L xs mX1_whyNot (0, [some (.ref 10), some (.int 4), some (.int (cI a))], []) (sh0, σ) _
  refine px_W.run 1 (f' := (1, [some (.ref 10), some (.int 4), some (.int (cI a))], [.int 4])) (h' := (sh0, σ)) rfl ?_
  refine px_W.tsw (tg := 53) rfl (by decide) ?_
  refine px_W.run 2 (f' := (55, [some (.ref 10), some (.int 4), some (.int (cI a))], [.int (cI a), .ref 10])) (h' := (sh0, σ)) rfl ?_
  refine px_W.cE (as := [.ref 10, .int (cI a)]) (st := []) (v := some (.int (wM (σ 10 8) (pw (σ 10 9) (σ 11) (σ 14) (σ 13)) (σ 15) a))) (σ' := σ) rfl rfl rfl (t10_whyNotMake σ ha) ?_
  exact px_W.iret rfl rfl ⟨rfl, rfl⟩

theorem t10_whyNotPaint {L : Nat} {xs : Nat → Int32} (σ : px_Sg) {k : Nat} (hk : k < 8) : px_E L xs mX1_whyNotPaint [.ref 10, .int (cI k)] σ (some (.int (wP (σ 10 9) (σ 11) (σ 14) (σ 12) k))) σ := by
  show px_W L xs mX1_whyNotPaint (0, [some (.ref 10), some (.int (cI k)), none], []) (sh0, σ) _
  refine px_W.run 2 (f' := (4, [some (.ref 10), some (.int (cI k)), none], [.int (σ 10 9)])) (h' := (sh0, σ)) rfl ?_
  refine px_W.if_ne rfl (fun c1 => ?_) (fun c1 => ?_)
  · refine px_W.run 1 (f' := (8, [some (.ref 10), some (.int (cI k)), none], [.int 1])) (h' := (sh0, σ)) rfl ?_
    exact px_W.iret rfl rfl ⟨by simp_all [wP], rfl⟩
  · refine px_W.run 1 (f' := (10, [some (.ref 10), some (.int (cI k)), none], [.ref 10])) (h' := (sh0, σ)) rfl ?_
    refine px_W.cE (as := [.ref 10]) (st := []) (v := some (.int (dS (σ 11) (σ 14)))) (σ' := σ) rfl rfl rfl (t10_doneParts σ) ?_
    refine px_W.run 6 (f' := (19, [some (.ref 10), some (.int (cI k)), some (.int (dS (σ 11) (σ 14)))], [.int ((dS (σ 11) (σ 14)) &&& (1 <<< ((cI k) &&& 31)))])) (h' := (sh0, σ)) rfl ?_
    refine px_W.if_eq rfl (fun c2 => ?_) (fun c2 => ?_)
    · refine px_W.run 3 (f' := (29, [some (.ref 10), some (.int (cI k)), some (.int (dS (σ 11) (σ 14)))], [.int (cI k), .ref 12])) (h' := (sh0, σ)) rfl ?_
      refine px_W.iald rfl rfl (i := k) (cI_n _) (hk) (by decide) ?_
      refine px_W.run 4 (f' := (34, [some (.ref 10), some (.int (cI k)), some (.int (dS (σ 11) (σ 14)))], [.int ((σ 12 k) &&& ((dS (σ 11) (σ 14)) ^^^ (-1)))])) (h' := (sh0, σ)) rfl ?_
      refine px_W.if_eq rfl (fun c3 => ?_) (fun c3 => ?_)
      · refine px_W.run 1 (f' := (42, [some (.ref 10), some (.int (cI k)), some (.int (dS (σ 11) (σ 14)))], [.int 0])) (h' := (sh0, σ)) rfl ?_
        exact px_W.iret rfl rfl ⟨by rw [dS_z hk] at c2; simp_all [wP], rfl⟩
      · refine px_W.run 2 (f' := (42, [some (.ref 10), some (.int (cI k)), some (.int (dS (σ 11) (σ 14)))], [.int 3])) (h' := (sh0, σ)) rfl ?_
        exact px_W.iret rfl rfl ⟨by rw [dS_z hk] at c2; simp_all [wP], rfl⟩
    · refine px_W.run 1 (f' := (23, [some (.ref 10), some (.int (cI k)), some (.int (dS (σ 11) (σ 14)))], [.int 2])) (h' := (sh0, σ)) rfl ?_
      exact px_W.iret rfl rfl ⟨by rw [dS_z hk] at c2; simp_all [wP], rfl⟩
theorem t10_whyNot1 {L : Nat} {xs : Nat → Int32} (σ : px_Sg) {k : Nat} (hk : k < 8) : px_E L xs mX1_whyNot [.ref 10, .int 1, .int (cI k)] σ (some (.int (wP (σ 10 9) (σ 11) (σ 14) (σ 12) k))) σ := by
  show px_W L xs mX1_whyNot (0, [some (.ref 10), some (.int 1), some (.int (cI k))], []) (sh0, σ) _
  refine px_W.run 1 (f' := (1, [some (.ref 10), some (.int 1), some (.int (cI k))], [.int 1])) (h' := (sh0, σ)) rfl ?_
  refine px_W.tsw (tg := 32) rfl (by decide) ?_
  refine px_W.run 2 (f' := (34, [some (.ref 10), some (.int 1), some (.int (cI k))], [.int (cI k), .ref 10])) (h' := (sh0, σ)) rfl ?_
  refine px_W.cE (as := [.ref 10, .int (cI k)]) (st := []) (v := some (.int (wP (σ 10 9) (σ 11) (σ 14) (σ 12) k))) (σ' := σ) rfl rfl rfl (t10_whyNotPaint σ hk) ?_
  exact px_W.iret rfl rfl ⟨rfl, rfl⟩
theorem t10_whyNot2 {L : Nat} {xs : Nat → Int32} (σ : px_Sg) {k : Nat} (hk : k < 8) : px_E L xs mX1_whyNot [.ref 10, .int 2, .int (cI k)] σ (some (.int (wO (σ 14) k))) σ := by
  show px_W L xs mX1_whyNot (0, [some (.ref 10), some (.int 2), some (.int (cI k))], []) (sh0, σ) _
  refine px_W.run 1 (f' := (1, [some (.ref 10), some (.int 2), some (.int (cI k))], [.int 2])) (h' := (sh0, σ)) rfl ?_
  refine px_W.tsw (tg := 38) rfl (by decide) ?_
  refine px_W.run 3 (f' := (43, [some (.ref 10), some (.int 2), some (.int (cI k))], [.int (cI k), .ref 14])) (h' := (sh0, σ)) rfl ?_
  refine px_W.iald rfl rfl (i := k) (cI_n _) (hk) (by decide) ?_
  refine px_W.if_ne rfl (fun c1 => ?_) (fun c1 => ?_)
  · refine px_W.run 2 (f' := (52, [some (.ref 10), some (.int 2), some (.int (cI k))], [.int 4])) (h' := (sh0, σ)) rfl ?_
    exact px_W.iret rfl rfl ⟨by simp_all [wO], rfl⟩
  · refine px_W.run 1 (f' := (52, [some (.ref 10), some (.int 2), some (.int (cI k))], [.int 0])) (h' := (sh0, σ)) rfl ?_
    exact px_W.iret rfl rfl ⟨by simp_all [wO], rfl⟩
theorem t10_whyNot3 {L : Nat} {xs : Nat → Int32} (σ : px_Sg) {k : Nat} (hk : k < 8) : px_E L xs mX1_whyNot [.ref 10, .int 3, .int (cI k)] σ (some (.int 0)) σ := by
  show px_W L xs mX1_whyNot (0, [some (.ref 10), some (.int 3), some (.int (cI k))], []) (sh0, σ) _
  refine px_W.run 1 (f' := (1, [some (.ref 10), some (.int 3), some (.int (cI k))], [.int 3])) (h' := (sh0, σ)) rfl ?_
  refine px_W.tsw (tg := 59) rfl (by decide) ?_
  refine px_W.run 1 (f' := (60, [some (.ref 10), some (.int 3), some (.int (cI k))], [.int 0])) (h' := (sh0, σ)) rfl ?_
  exact px_W.iret rfl rfl ⟨rfl, rfl⟩
def s10_paint (σ : px_Sg) (k : Nat) : px_Sg := (px_up (px_up σ 14 (upd (σ 14) k ((σ 14 k) + 1))) 10 (upd (σ 10) 12 ((σ 10 12) + 1)))
theorem t10_paint {L : Nat} {xs : Nat → Int32} (σ : px_Sg) {k : Nat} (hk : k < 8) : px_E L xs mX1_paint [.ref 10, .int (cI k)] σ (none) (s10_paint σ k) := by
  show px_W L xs mX1_paint (0, [some (.ref 10), some (.int (cI k))], []) (sh0, σ) _
  refine px_W.run 4 (f' := (6, [some (.ref 10), some (.int (cI k))], [.int (cI k), .ref 14, .int (cI k), .ref 14])) (h' := (sh0, σ)) rfl ?_
  refine px_W.iald rfl rfl (i := k) (cI_n _) (hk) (by decide) ?_
  refine px_W.run 2 (f' := (9, [some (.ref 10), some (.int (cI k))], [.int ((σ 14 k) + 1), .int (cI k), .ref 14])) (h' := (sh0, σ)) rfl ?_
  refine px_W.iast rfl rfl (i := k) (cI_n _) (hk) (by decide) ?_
  refine px_W.run 5 (f' := (17, [some (.ref 10), some (.int (cI k))], [.int ((σ 10 12) + 1), .ref 10])) (h' := (sh0, (px_up σ 14 (upd (σ 14) k ((σ 14 k) + 1))))) rfl ?_
  refine px_W.puti rfl rfl ?_
  exact px_W.vret rfl rfl ⟨rfl, rfl⟩
