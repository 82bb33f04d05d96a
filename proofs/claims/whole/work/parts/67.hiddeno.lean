section OPS15
variable {L : Nat} {xs : Nat → Int32} {σ : px_Sg} {Q : Option Value → px_H → Prop}
def mkF (u n g ss sa : Nat → Int32) (cl : Int32) (ns : Nat) (f : Nat → Int32) (st : Int32) : Nat → Int32 := kpT (okS u n g ss sa cl st ns) (mkO f 256) 256
def fhT (σ : px_Sg) (ns : Nat) : Nat → Int32 := fhR (mkF (σ 3) (σ 6) (σ 4) (σ 7) (σ 8) (σ 1 11) ns) (fun st => nxs (σ 7) st ns) 8 (cpn (fun s => bo (cS (σ 3) (cI s))) (σ 39) 256) (nxs (σ 7) (-1) ns)
theorem fh_loop (σ : px_Sg) {n : Nat} (hn : σ 1 10 = nI n) (hn8 : n ≤ 8) : ∀ (d j : Nat) (f : Nat → Int32) (st : Int32), j + d = 8 → px_W L xs mX2_findHidden (48, [some (.ref 0), some (.int st), some (.int (cI j))], []) (sh0, px_up σ 39 f) (fun r h => r = none ∧ h = (sh0, px_up σ 39 (fhR (mkF (σ 3) (σ 6) (σ 4) (σ 7) (σ 8) (σ 1 11) n) (fun st => nxs (σ 7) st n) d f st)))
  | 0, j, f, st, hj => by
    have : j = 8 := by omega
    subst this
    exact fh_x8 _ st ⟨rfl, rfl⟩
  | d + 1, j, f, st, hj => by
    by_cases h6 : st = -6
    · subst h6
      refine fh_xN _ (by omega) ⟨rfl, ?_⟩
      rw [fhR, if_pos rfl]
    · refine fh_turn (px_up σ 39 f) st (n := n) (by rw [pu_o _ (by decide)]; exact hn) hn8 h6 (by omega) ?_
      rw [px_upup, pu_s, pu_o _ (by decide), pu_o _ (by decide), pu_o _ (by decide), pu_o _ (by decide), pu_o _ (by decide), pu_o _ (by decide)]
      have := fh_loop σ hn hn8 d (j + 1) (mkF (σ 3) (σ 6) (σ 4) (σ 7) (σ 8) (σ 1 11) n f st) (nxs (σ 7) st n) (by omega)
      rw [fhR, if_neg h6]
      exact this
theorem t_findHidden (σ : px_Sg) {n : Nat} (hn : σ 1 10 = nI n) (hn8 : n ≤ 8) : px_E L xs mX2_findHidden [.ref 0] σ none (px_up σ 39 (fhT σ n)) := by
  refine fh_0 σ hn hn8 ?_
  exact fh_loop σ hn hn8 8 0 _ _ rfl
def lsF (u n g q : Nat → Int32) (ac : Nat → Nat) (ns : Nat) (c : Nat → Int32) (st : Int32) (s : Nat) : Int32 := bo (ftR u n g q ac st s ns && frB c s 256)
theorem lsF_01 (u n g q : Nat → Int32) (ac : Nat → Nat) (ns : Nat) (c : Nat → Int32) (st : Int32) (s : Nat) : lsF u n g q ac ns c st s = 0 ∨ lsF u n g q ac ns c st s = 1 := bo01 _
theorem ls_turn (σ : px_Sg) (st : Int32) {n : Nat} (hn : σ 40 8 = nI n) (hn8 : n ≤ 8) {ac : Nat → Nat} (hac : ∀ i, i < n → σ 47 (3 * i + 1) = cI (ac i) ∧ ac i < 8) {s : Nat} (hs : s < 256) (hk : px_W L xs mX3_layStep (2, [some (.ref 40), some (.int st), some (.int (cI (s + 1))), none, none, none], []) (sh0, px_up σ 52 (upd (σ 52) s (lsF (σ 42) (σ 45) (σ 43) (σ 47) ac n (σ 51) st s))) Q) : px_W L xs mX3_layStep (2, [some (.ref 40), some (.int st), some (.int (cI s)), none, none, none], []) (sh0, σ) Q :=
  ls_s σ st hs (ls_a σ st hn hn8 hac (ls_b σ st _ (ls_c σ st hs _ _ hk)))
theorem t_layStep (σ : px_Sg) (st : Int32) {n : Nat} (hn : σ 40 8 = nI n) (hn8 : n ≤ 8) {ac : Nat → Nat} (hac : ∀ i, i < n → σ 47 (3 * i + 1) = cI (ac i) ∧ ac i < 8) : px_E L xs mX3_layStep [.ref 40, .int st] σ none (px_up (px_up σ 52 (cpn (lsF (σ 42) (σ 45) (σ 43) (σ 47) ac n (σ 51) st) (σ 52) 256)) 51 (cpn (cpn (lsF (σ 42) (σ 45) (σ 43) (σ 47) ac n (σ 51) st) (σ 52) 256) (σ 51) 256)) := by
  show px_W L xs mX3_layStep (0, [some (.ref 40), some (.int st), none, none, none, none], []) (sh0, σ) _
  refine px_W.run 2 (f' := (2, [some (.ref 40), some (.int st), some (.int 0), none, none, none], [])) (h' := (sh0, σ)) rfl ?_
  refine px_W.to (f' := (2, [some (.ref 40), some (.int st), some (.int (cI 0)), none, none, none], [])) (h' := (sh0, px_up σ 52 (cpn (lsF (σ 42) (σ 45) (σ 43) (σ 47) ac n (σ 51) st) (σ 52) 0))) (by rw [cpn_0, px_up_self]; rfl) ?_
  refine px_W.loop 256 (fun i => ((2, [some (.ref 40), some (.int st), some (.int (cI i)), none, none, none], []), (sh0, px_up σ 52 (cpn (lsF (σ 42) (σ 45) (σ 43) (σ 47) ac n (σ 51) st) (σ 52) i)))) (fun _ => True) trivial (fun i hi _ k => ?_) (fun _ => ?_)
  · have k := k trivial
    simp only at k
    refine ls_turn (px_up σ 52 (cpn (lsF (σ 42) (σ 45) (σ 43) (σ 47) ac n (σ 51) st) (σ 52) i)) st (n := n) (by rw [pu_o _ (by decide)]; exact hn) hn8 (ac := ac) (by rw [pu_o _ (by decide)]; exact hac) hi ?_
    rw [px_upup, pu_s, pu_o _ (by decide), pu_o _ (by decide), pu_o _ (by decide), pu_o _ (by decide), pu_o _ (by decide), cpn_e rfl]
    exact k
  · refine ls_e _ st (fun i hi => ?_) ⟨rfl, ?_⟩
    · rw [pu_s, cpn_lt _ _ hi]; exact lsF_01 _ _ _ _ _ _ _ _ _
    · rw [pu_s, pu_o _ (by decide)]
def lhP (u n g q : Nat → Int32) (ac : Nat → Nat) (ns : Nat) (c0 d0 : Nat → Int32) : Nat → (Nat → Int32) × (Nat → Int32)
  | 0 => (c0, d0)
  | t + 1 => if smB q (cI t) ns = true then (cpn (cpn (lsF u n g q ac ns (lhP u n g q ac ns c0 d0 t).1 (cI t)) (lhP u n g q ac ns c0 d0 t).2 256) (lhP u n g q ac ns c0 d0 t).1 256, cpn (lsF u n g q ac ns (lhP u n g q ac ns c0 d0 t).1 (cI t)) (lhP u n g q ac ns c0 d0 t).2 256) else lhP u n g q ac ns c0 d0 t
theorem px_up4 (σ : px_Sg) (a b c d : Nat → Int32) : px_up (px_up (px_up (px_up σ 52 a) 51 b) 52 c) 51 d = px_up (px_up σ 52 c) 51 d := by
  funext j
  by_cases h1 : j = 51
  · simp [px_up, h1]
  · by_cases h2 : j = 52
    · simp [px_up, h2]
    · simp [px_up, h1, h2]
theorem lh_step (σ : px_Sg) (c d : Nat → Int32) {n : Nat} (hn : σ 40 8 = nI n) (hn8 : n ≤ 8) {ac : Nat → Nat} (hac : ∀ i, i < n → σ 47 (3 * i + 1) = cI (ac i) ∧ ac i < 8) {t : Nat} (ht : t < 61)
    (hkA : smB (σ 47) (cI t) n = false → px_W L xs mX3_layHidden (28, [some (.ref 40), some (.int (cI (t + 1))), none, none], []) (sh0, px_up (px_up σ 52 d) 51 c) Q)
    (hkB : smB (σ 47) (cI t) n = true → px_W L xs mX3_layHidden (28, [some (.ref 40), some (.int (cI (t + 1))), none, none], []) (sh0, px_up (px_up σ 52 (cpn (lsF (σ 42) (σ 45) (σ 43) (σ 47) ac n c (cI t)) d 256)) 51 (cpn (cpn (lsF (σ 42) (σ 45) (σ 43) (σ 47) ac n c (cI t)) d 256) c 256)) Q) :
    px_W L xs mX3_layHidden (28, [some (.ref 40), some (.int (cI t)), none, none], []) (sh0, px_up (px_up σ 52 d) 51 c) Q := by
  have e40 : px_up (px_up σ 52 d) 51 c 40 = σ 40 := by rw [pu_o _ (by decide), pu_o _ (by decide)]
  have e42 : px_up (px_up σ 52 d) 51 c 42 = σ 42 := by rw [pu_o _ (by decide), pu_o _ (by decide)]
  have e43 : px_up (px_up σ 52 d) 51 c 43 = σ 43 := by rw [pu_o _ (by decide), pu_o _ (by decide)]
  have e45 : px_up (px_up σ 52 d) 51 c 45 = σ 45 := by rw [pu_o _ (by decide), pu_o _ (by decide)]
  have e47 : px_up (px_up σ 52 d) 51 c 47 = σ 47 := by rw [pu_o _ (by decide), pu_o _ (by decide)]
  have e51 : px_up (px_up σ 52 d) 51 c 51 = c := pu_s _ _ _
  have e52 : px_up (px_up σ 52 d) 51 c 52 = d := by rw [pu_o _ (by decide), pu_s]
  have hT := t_layStep (L := L) (xs := xs) (px_up (px_up σ 52 d) 51 c) (cI t) (n := n) (by rw [e40]; exact hn) hn8 (ac := ac) (by rw [e47]; exact hac)
  rw [e42, e43, e45, e47, e51, e52, px_up4] at hT
  refine lh_turn (px_up (px_up σ 52 d) 51 c) (n := n) (by rw [e40]; exact hn) hn8 ht hT (fun h => hkA ?_) (fun h => hkB ?_)
  · rw [e47] at h; exact h
  · rw [e47] at h; exact h
theorem t_layHidden (σ : px_Sg) {n : Nat} (hn : σ 40 8 = nI n) (hn8 : n ≤ 8) {ac : Nat → Nat} (hac : ∀ i, i < n → σ 47 (3 * i + 1) = cI (ac i) ∧ ac i < 8) {c0 : Nat → Int32} (hc : c0 = cpn (fun s => bo (cS (σ 42) (cI s))) (σ 51) 256) : px_E L xs mX3_layHidden [.ref 40] σ none (px_up (px_up σ 52 (lhP (σ 42) (σ 45) (σ 43) (σ 47) ac n c0 (σ 52) 61).2) 51 (lhP (σ 42) (σ 45) (σ 43) (σ 47) ac n c0 (σ 52) 61).1) := by
  refine lh_0 σ ?_
  rw [← hc]
  refine px_W.to (f' := (28, [some (.ref 40), some (.int (cI 0)), none, none], [])) (h' := (sh0, px_up (px_up σ 52 (lhP (σ 42) (σ 45) (σ 43) (σ 47) ac n c0 (σ 52) 0).2) 51 (lhP (σ 42) (σ 45) (σ 43) (σ 47) ac n c0 (σ 52) 0).1)) (by rw [lhP, px_up_self]; rfl) ?_
  refine px_W.loop 61 (fun t => ((28, [some (.ref 40), some (.int (cI t)), none, none], []), (sh0, px_up (px_up σ 52 (lhP (σ 42) (σ 45) (σ 43) (σ 47) ac n c0 (σ 52) t).2) 51 (lhP (σ 42) (σ 45) (σ 43) (σ 47) ac n c0 (σ 52) t).1))) (fun _ => True) trivial (fun t ht _ k => ?_) (fun _ => ?_)
  · have k := k trivial
    simp only at k
    refine lh_step σ _ _ hn hn8 hac ht (fun h => ?_) (fun h => ?_)
    · rw [lhP, if_neg (by rw [h]; decide)] at k; exact k
    · rw [lhP, if_pos h] at k; exact k
  · exact lh_e _ ⟨rfl, rfl⟩
theorem lh_tab {u n g q ss sa : Nat → Int32} {cl : Int32} {ac : Nat → Nat} {ns : Nat} {c0 d0 : Nat → Int32} (h1 : ∀ i, i < ns → q (3 * i) = ss i) (h2 : ∀ i, i < ns → sa i = cI (ac i) ∧ ac i < 8) (h3 : ∀ i, i < ns → q (3 * i + 2) = bo (hb cl i)) (h0 : tab c0 (fun s => cS u (cI s))) :
    ∀ t, tab (lhP u n g q ac ns c0 d0 t).1 (RB (fun t s => okS u n g ss sa cl (nI t) ns s) (fun t => smB q (cI t) ns) (fun s => cS u (cI s)) t)
  | 0 => h0
  | t + 1 => by
    have ih := lh_tab (n := n) (g := g) (d0 := d0) h1 h2 h3 h0 t
    rw [lhP, RB]
    by_cases c : smB q (cI t) ns = true
    · rw [if_pos c, if_pos c]
      intro s hs
      show cpn _ _ 256 s = _
      rw [cpn_lt _ _ hs, cpn_lt _ _ hs, lsF, ftR_ok h1 h2 h3 ns (Nat.le_refl _), frB_up ih 256 (Nat.le_refl _), Bool.and_comm, cI_n t]
      rfl
    · rw [if_neg c, if_neg c]; exact ih
theorem mkF_tab {u n g ss sa : Nat → Int32} {cl st : Int32} {ns : Nat} {f : Nat → Int32} {B : Nat → Bool} (h : tab f B) : tab (mkF u n g ss sa cl ns f st) (fun s => upS B s && okS u n g ss sa cl st ns s) := by
  unfold mkF
  exact kpT_tab (mkO_tab h)
theorem hid_tab (hR : Rel σ) : ∃ T C D B, px_E L xs mX2_findHidden [.ref 0] σ none (px_up σ 39 T) ∧ px_E L xs mX3_layHidden [.ref 40] (px_up σ 39 T) none (px_up (px_up (px_up σ 39 T) 52 D) 51 C) ∧ tab T B ∧ tab C B := by
  obtain ⟨e1, e2, e3, e4, e5, e6⟩ := hR.2.2.1
  obtain ⟨ns, hn8, hn, hm, hS⟩ := hR.2.2.2.2.2.1
  have q1 : ∀ i, i < ns → σ 47 (3 * i) = σ 7 i := fun i hi => by have := (hS i hi).2.2.1; rwa [Nat.zero_add] at this
  have q2 : ∀ i, i < ns → σ 47 (3 * i + 1) = σ 8 i := fun i hi => by have := (hS i hi).2.2.2.1; rwa [Nat.zero_add] at this
  have q3 : ∀ i, i < ns → σ 47 (3 * i + 2) = bo (hb (σ 1 11) i) := fun i hi => by have := (hS i hi).2.2.2.2; rwa [Nat.zero_add] at this
  have hac : ∀ i, i < ns → σ 8 i = cI (σ 8 i).toNatClampNeg ∧ (σ 8 i).toNatClampNeg < 8 := fun i hi => by
    obtain ⟨a, h1, h2⟩ := (hS i hi).2.1
    have : (σ 8 i).toNatClampNeg = a := by rw [h2, cI_n]; exact nI_clamp (by omega)
    rw [this]; exact ⟨h2, h1⟩
  have htv : ∀ i, i < ns → (σ 7 i).toNatClampNeg ≤ 60 ∧ σ 7 i = nI (σ 7 i).toNatClampNeg := fun i hi => by
    obtain ⟨a, h1, h2⟩ := (hS i hi).1
    have : (σ 7 i).toNatClampNeg = a := by rw [h2]; exact nI_clamp (by omega)
    rw [this]; exact ⟨h1, h2⟩
  have hT := t_findHidden (L := L) (xs := xs) σ hn hn8
  revert hT
  generalize hF : fhT σ ns = T
  intro hT
  have hC := t_layHidden (L := L) (xs := xs) (px_up σ 39 T) (n := ns) (by rw [pu_o _ (by decide)]; exact hm) hn8 (ac := fun i => (σ 8 i).toNatClampNeg) (by rw [pu_o _ (by decide)]; exact fun i hi => ⟨by rw [q2 i hi]; exact (hac i hi).1, (hac i hi).2⟩) rfl
  rw [pu_o _ (j := 42) (by decide), pu_o _ (j := 45) (by decide), pu_o _ (j := 43) (by decide), pu_o _ (j := 47) (by decide), pu_o _ (j := 51) (by decide), pu_o _ (j := 52) (by decide), e2, e3, e5] at hC
  refine ⟨T, _, _, _, hT, hC, ?_, lh_tab (cl := σ 1 11) q1 hac q3 (fun s hs => cpn_lt _ _ hs) 61⟩
  rw [← hF]
  refine fh_chain (tv := fun i => (σ 7 i).toNatClampNeg) (ns := ns) (fun t ht => ?_) (fun i hi => (htv i hi).1) (fun t f B ht hf => mkF_tab hf) (fun t ht => ?_) 8 0 _ _ (by omega) (fun s hs => cpn_lt _ _ hs) ?_ (Nat.le_trans (ctG_le _ _ _) hn8)
  · rw [smB_iff]
    constructor
    · rintro ⟨i, h1, h2⟩
      refine ⟨i, h1, ?_⟩
      rw [q1 i h1, (htv i h1).2, cI_n] at h2
      exact (nI_eq (by have := (htv i h1).1; omega) (by omega)).mp h2
    · rintro ⟨i, h1, h2⟩
      refine ⟨i, h1, ?_⟩
      rw [q1 i h1, (htv i h1).2, cI_n]
      exact congrArg nI h2
  · exact nxs_NX (fun v hv => ⟨fun h => by have := (nI_leI (by omega) (by omega)).mp h; omega, fun h => (nI_leI (by omega) (by omega)).mpr (by omega)⟩) ns htv
  · exact nxs_NX (fun v hv => ⟨fun h => absurd h (fun z => absurd (Int32.lt_of_le_of_lt z (by decide : (-1 : Int32) < 0)) (nI_pos (by omega))), fun h => absurd h (by omega)⟩) ns htv
/-! counting -/
def cbN (B : Nat → Bool) : Nat → Nat
  | 0 => 0
  | i + 1 => cbN B i + (B i).toNat
theorem cbN_le (B : Nat → Bool) : ∀ i, cbN B i ≤ i
  | 0 => Nat.le_refl _
  | i + 1 => by have := cbN_le B i; have := tn_1 (B i); rw [cbN]; omega
theorem bo_n (b : Bool) : bo b = nI b.toNat := by cases b <;> rfl
theorem cH_v {f : Nat → Int32} {B : Nat → Bool} (h : tab f B) : ∀ i, i ≤ 256 → cH f i = nI (cbN B i)
  | 0, _ => rfl
  | i + 1, hi => by rw [cH, cbN, cH_v h i (by omega), h i (by omega), bo_n, nI_add]
theorem hrC_v {f : Nat → Int32} {B : Nat → Bool} (h : tab f B) : ∀ i, i ≤ 256 → hrC f i = nI (cbN B i)
  | 0, _ => rfl
  | i + 1, hi => by
    rw [hrC, cbN, hrC_v h i (by omega), h i (by omega)]
    cases B i
    · simp [bo]
    · simp only [bo, if_true]; rw [if_neg (by decide)]; exact nI_1 _
theorem sH_same {f c : Nat → Int32} {B : Nat → Bool} (h : tab f B) (h' : tab c B) : ∀ i, i ≤ 256 → hrS c i = sH f i
  | 0, _ => rfl
  | i + 1, hi => by
    rw [hrS, sH, sH_same h h' i (by omega), h i (by omega), h' i (by omega)]
    cases B i <;> simp [bo]
theorem aH_same {f c : Nat → Int32} {B : Nat → Bool} (h : tab f B) (h' : tab c B) : ∀ i, i ≤ 256 → hrA c i = aH f i
  | 0, _ => rfl
  | i + 1, hi => by
    rw [hrA, aH, aH_same h h' i (by omega), h i (by omega), h' i (by omega)]
    cases B i <;> simp [bo]
theorem mL_v {f n g : Nat → Int32} {a : Nat} {B : Nat → Bool} (h : tab f B) : ∀ i, i ≤ 256 → mL f n g a i = nI (cbN (fun s => B s && gB n g (cI s) a) i)
  | 0, _ => rfl
  | i + 1, hi => by
    rw [mL, cbN, mL_v h i (by omega), h i (by omega)]
    cases B i <;> cases gB n g (cI i) a <;> simp [bo, nI_1]
theorem gdC_v {f n g : Nat → Int32} {a : Nat} {B : Nat → Bool} (h : tab f B) : ∀ i, i ≤ 256 → gdC f n g a i = nI (cbN (fun s => B s && gB n g (cI s) a) i)
  | 0, _ => rfl
  | i + 1, hi => by
    rw [gdC, cbN, gdC_v h i (by omega), h i (by omega), bo_n, nI_add]
    cases B i <;> cases gB n g (cI i) a <;> simp [bo]
theorem bdC_v {f n g : Nat → Int32} {a : Nat} {B : Nat → Bool} (h : tab f B) : ∀ i, i ≤ 256 → bdC f n g a i = nI (cbN (fun s => B s && !gB n g (cI s) a) i)
  | 0, _ => rfl
  | i + 1, hi => by
    rw [bdC, cbN, bdC_v h i (by omega), h i (by omega), bo_n, nI_add]
    cases B i <;> cases gB n g (cI i) a <;> simp [bo]
theorem cb_sum {B G : Nat → Bool} : ∀ i, cbN (fun s => B s && G s) i + cbN (fun s => B s && !G s) i = cbN B i
  | 0 => rfl
  | i + 1 => by
    have := cb_sum (B := B) (G := G) i
    rw [cbN, cbN, cbN]
    cases B i <;> cases G i <;> simp <;> omega
def mxN (x y : Nat) : Nat := if x < y then y else x
theorem mxV_v {x y c : Nat} (h : x + y = c) (hc : c ≤ 256) : mxV (nI x) (nI c) = nI (mxN x y) := by
  unfold mxV mxN
  rw [pk_sub (by omega), show c - x = y by omega]
  by_cases q : x < y
  · rw [if_pos q, if_pos (nI_lt q (by omega))]
  · rw [if_neg q, if_neg (nI_nlt (by omega) (by omega))]
theorem hrW_v {f n g : Nat → Int32} {a : Nat} {B : Nat → Bool} (h : tab f B) : hrW f n g a = nI (mxN (cbN (fun s => B s && gB n g (cI s) a) 256) (cbN (fun s => B s && !gB n g (cI s) a) 256)) := by
  have h1 := cbN_le (fun s => B s && gB n g (cI s) a) 256
  have h2 := cbN_le (fun s => B s && !gB n g (cI s) a) 256
  unfold hrW mxN
  rw [gdC_v h 256 (Nat.le_refl _), bdC_v h 256 (Nat.le_refl _)]
  revert h1 h2
  generalize cbN (fun s => B s && gB n g (cI s) a) 256 = x
  generalize cbN (fun s => B s && !gB n g (cI s) a) 256 = y
  intro h1 h2
  by_cases q : x < y
  · rw [if_pos q, if_pos (nI_le (by omega) (by omega))]
  · rw [if_neg q]
    by_cases e : x = y
    · rw [e, if_pos (nI_le (Nat.le_refl _) (by omega))]
    · rw [if_neg (nI_ge (by omega) (by omega))]
theorem tr_same {w : Nat → Int32} {V : Nat → Nat} (hw : ∀ a, a < 8 → w a = nI (V a) ∧ 0 < V a ∧ V a ≤ 256) : ∀ j, j ≤ 7 → hrL w (j + 1) = trL w j ∧ hrF w (j + 1) = trB w j ∧ ∃ k, k ≤ 7 ∧ trB w j = cI k
  | 0, _ => by
    obtain ⟨h1, h2, h3⟩ := hw 0 (by omega)
    have n1 : ¬ w 0 ≤ 0 := by rw [h1]; exact nI_nle h2 (by omega)
    have n2 : ¬ (1000000 : Int32) ≤ w 0 := by rw [h1]; exact nI_ge (b := 1000000) (by omega) (by decide)
    refine ⟨?_, ?_, 0, by omega, rfl⟩
    · rw [hrL, if_neg n1, hrL, if_neg n2]; rfl
    · rw [hrF, if_neg n1, hrL, if_neg n2]; rfl
  | j + 1, hj => by
    obtain ⟨i1, i2, k, i3, i4⟩ := tr_same hw j (by omega)
    obtain ⟨h1, h2, h3⟩ := hw (j + 1) (by omega)
    have n1 : ¬ w (j + 1) ≤ 0 := by rw [h1]; exact nI_nle h2 (by omega)
    refine ⟨?_, ?_, ?_⟩
    · rw [hrL, if_neg n1, i1, trL]
    · rw [hrF, if_neg n1, i1, i2, trB]
    · rw [trB]
      by_cases q : trL w j ≤ w (j + 1)
      · rw [if_pos q]; exact ⟨k, i3, i4⟩
      · rw [if_neg q]; exact ⟨j + 1, by omega, rfl⟩
theorem tr_none {w : Nat → Int32} (hw : ∀ a, a < 8 → w a = 0) : ∀ j, j ≤ 8 → hrF w j = -6
  | 0, _ => rfl
  | j + 1, hj => by rw [hrF, if_pos (by rw [hw j (by omega)]; decide)]; exact tr_none hw j (by omega)
theorem trL_congr {w m : Nat → Int32} (h : ∀ a, a < 8 → m a = w a) : ∀ j, j ≤ 7 → trL m j = trL w j ∧ trB m j = trB w j
  | 0, _ => ⟨h 0 (by omega), rfl⟩
  | j + 1, hj => by
    obtain ⟨i1, i2⟩ := trL_congr h j (by omega)
    rw [trL, trL, trB, trB, i1, i2, h (j + 1) (by omega)]
    exact ⟨rfl, rfl⟩
theorem Sm.hid (σ : px_Sg) (T C D : Nat → Int32) : Sm σ (px_up (px_up (px_up σ 39 T) 52 D) 51 C) := ((Sm.up σ (by omega) T).tr (Sm.up _ (by omega) D)).tr (Sm.up _ (by omega) C)
theorem o_hidden (hR : Rel σ) (q : Int32) : Op L xs mX2_hidden mX3_hidden [.int q] σ := by
  cases hv : iB q 0 2 with
  | false => exact ⟨_, σ, σ, tX_hidden0 σ q hv, tM_hidden0 σ q hv, hR⟩
  | true =>
    obtain ⟨T, C, D, B, hT, hC, t1, t2⟩ := hid_tab (L := L) (xs := xs) hR
    obtain ⟨k, hk, rfl⟩ := iB_lit (x := q) 2 (by decide) hv
    have ec : hrC C 256 = cH T 256 := by rw [hrC_v t2 256 (Nat.le_refl _), cH_v t1 256 (Nat.le_refl _)]
    match k, hk with
    | 0, _ => exact Op.of (tX_hidden_0 σ hT) (tM_hidden_0 _ hC) (by rw [ec]) (hR.sm (Sm.hid σ T C D))
    | 1, _ => exact Op.of (tX_hidden_1 σ hT) (tM_hidden_1 _ hC) (by rw [ec, aH_same t1 t2 256 (Nat.le_refl _)]) (hR.sm (Sm.hid σ T C D))
    | 2, _ => exact Op.of (tX_hidden_2 σ hT) (tM_hidden_2 _ hC) (by rw [sH_same t1 t2 256 (Nat.le_refl _)]) (hR.sm (Sm.hid σ T C D))
theorem o_tries (hR : Rel σ) (q : Int32) : Op L xs mX2_tries mX3_tries [.int q] σ := by
  obtain ⟨e1, e2, e3, e4, e5, e6⟩ := hR.2.2.1
  cases hv : i2 q with
  | false => exact ⟨_, σ, σ, tX_tries0 σ q hv, tM_tries0 σ q hv, hR⟩
  | true =>
    obtain ⟨T, C, D, B, hT, hC, t1, t2⟩ := hid_tab (L := L) (xs := xs) hR
    have hM := tM_tries (px_up σ 39 T) q hv hC
    rw [pu_o _ (j := 45) (by decide), pu_o _ (j := 43) (by decide), e3, e5] at hM
    have hw : ∀ a, hrW C (σ 6) (σ 4) a = nI (mxN (cbN (fun s => B s && gB (σ 6) (σ 4) (cI s) a) 256) (cbN (fun s => B s && !gB (σ 6) (σ 4) (cI s) a) 256)) := fun a => hrW_v t2
    have hs := fun a => cb_sum (B := B) (G := fun s => gB (σ 6) (σ 4) (cI s) a) 256
    have hc := cbN_le B 256
    have hcv := cH_v t1 256 (Nat.le_refl _)
    by_cases h0 : cbN B 256 = 0
    · refine Op.of (tX_triesN σ q hv hT (by rw [hcv, h0]; rfl)) hM ?_ (hR.sm (Sm.hid σ T C D))
      rw [tr_none (fun a ha => by
        rw [hw a]
        have := hs a
        rw [show cbN (fun s => B s && gB (σ 6) (σ 4) (cI s) a) 256 = 0 by omega, show cbN (fun s => B s && !gB (σ 6) (σ 4) (cI s) a) 256 = 0 by omega]
        rfl) 8 (Nat.le_refl _)]
      rw [if_pos (by decide)]
    · refine Op.of (tX_tries σ q hv hT (by rw [hcv]; exact nI_ne0 (by omega) (by omega))) hM ?_ (hR.sm (Sm.hid σ T C D))
      have hm : ∀ a, a < 8 → (fun a => mxV (mL T (σ 6) (σ 4) a 256) (cH T 256)) a = hrW C (σ 6) (σ 4) a := fun a ha => by
        show mxV (mL T (σ 6) (σ 4) a 256) (cH T 256) = _
        rw [hw a, mL_v t1 256 (Nat.le_refl _), hcv, mxV_v (hs a) hc]
      obtain ⟨c1, c2⟩ := trL_congr hm 7 (Nat.le_refl _)
      obtain ⟨r1, r2, k, r3, r4⟩ := tr_same (w := hrW C (σ 6) (σ 4)) (V := fun a => mxN (cbN (fun s => B s && gB (σ 6) (σ 4) (cI s) a) 256) (cbN (fun s => B s && !gB (σ 6) (σ 4) (cI s) a) 256)) (fun a ha => by
        have := hs a
        refine ⟨hw a, ?_, ?_⟩
        · show 0 < mxN _ _
          unfold mxN; split <;> omega
        · show mxN _ _ ≤ 256
          unfold mxN; split <;> omega) 7 (Nat.le_refl _)
      rw [c1, c2, r1, r2, r4, if_neg (cI_nlt (by omega))]
end OPS15
