section OPS10
variable {L : Nat} {xs : Nat → Int32} {σ : px_Sg}
def brQ (u g n p : Nat → Int32) (done : Int32) (a : Nat) (s : Int32) : Bool := decide ((s &&& (bS p ^^^ -1)) = 0) && brP u g n done a s
theorem abS_0 (u : Nat → Int32) : ∀ n, n ≤ 8 → ab u 0 n = 0
  | 0, _ => rfl
  | n + 1, h => by rw [ab, abS_0 u n (by omega)]; simp
theorem brP_0 {u g n : Nat → Int32} {done : Int32} {a : Nat} (hg : gB n g done a = true) : brP u g n done a (cI 0) = false := by
  have h1 : done &&& ((0 : Int32) ^^^ -1) = done := b_ext fun i hi => by rw [b_and, bt_not _ hi, b_0]; simp
  unfold brP
  rw [show abS u (cI 0) = 0 from abS_0 u 8 (by omega), h1, hg]; rfl
theorem bst_1 {c : Int32 → Int32} {P : Int32 → Bool} (h : P (cI 0) = false) : bst c P 1 = -6 := by rw [bst_s, h]; rfl
theorem tM_bar (σ : px_Sg) {a : Nat} (ha : a < 8) (q : Int32) (hv : i2 q = true) (hg : gB (σ 45) (σ 43) (dS (σ 41) (σ 44)) a = true) : px_E L xs mX3_bar [.ref 40, .int (cI a), .int q] σ (some (.int (if bst pc8 (brQ (σ 42) (σ 43) (σ 45) (σ 44) (dS (σ 41) (σ 44)) a) 256 < 0 then bst pc8 (brQ (σ 42) (σ 43) (σ 45) (σ 44) (dS (σ 41) (σ 44)) a) 256 else if q = 1 then bst pc8 (brQ (σ 42) (σ 43) (σ 45) (σ 44) (dS (σ 41) (σ 44)) a) 256 else pcn (bst pc8 (brQ (σ 42) (σ 43) (σ 45) (σ 44) (dS (σ 41) (σ 44)) a) 256) 8))) (s_asNow σ) := by
  refine bm_0 σ ha q hv ?_
  have e : dS ((s_asNow σ) 41) ((s_asNow σ) 49) = dS (σ 41) (σ 44) := by rw [asN_49, asN_o σ (by decide) (by decide), dS_asN]
  rw [e]
  have o1 := asN_o σ (k := 42) (by decide) (by decide)
  have o2 := asN_o σ (k := 43) (by decide) (by decide)
  have o3 := asN_o σ (k := 44) (by decide) (by decide)
  have o4 := asN_o σ (k := 45) (by decide) (by decide)
  have hP0 : brQ (σ 42) (σ 43) (σ 45) (σ 44) (dS (σ 41) (σ 44)) a (cI 0) = false := by unfold brQ; rw [brP_0 hg, Bool.and_false]
  have hg' : gB ((s_asNow σ) 45) ((s_asNow σ) 43) (dS (σ 41) (σ 44)) a = true := by rw [o2, o4]; exact hg
  refine px_W.to (f' := (37, [some (.ref 40), some (.int (cI a)), some (.int q), some (.int (dS (σ 41) (σ 44))), some (.int (bst pc8 (brQ (σ 42) (σ 43) (σ 45) (σ 44) (dS (σ 41) (σ 44)) a) (0 + 1))), some (.int (cI (0 + 1))), none], [])) (h' := (sh0, s_asNow σ)) (by rw [bst_1 hP0]; rfl) ?_
  refine px_W.loop 255 (fun i => ((37, [some (.ref 40), some (.int (cI a)), some (.int q), some (.int (dS (σ 41) (σ 44))), some (.int (bst pc8 (brQ (σ 42) (σ 43) (σ 45) (σ 44) (dS (σ 41) (σ 44)) a) (i + 1))), some (.int (cI (i + 1))), none], []), (sh0, s_asNow σ))) (fun _ => True) trivial (fun i hi _ k => ?_) (fun _ => ?_)
  · refine bm_turn (s_asNow σ) ha q _ hg' _ (i := i + 1) (by omega) ?_
    have k := k trivial
    simp only at k
    rw [bst_s] at k
    rw [bst_lt _ _ (by omega), o1, o2, o3, o4]
    refine px_W.to ?_ k
    have hB : ∀ a b c : Bool, (a && b && c) = (a && c && b) := by decide
    rw [hB]
    rfl
  · exact bm_end (s_asNow σ) ha q _ hg' _ ⟨rfl, rfl⟩
end OPS10
