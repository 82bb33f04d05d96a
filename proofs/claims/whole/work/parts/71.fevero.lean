section OPS17
variable {L : Nat} {xs : Nat → Int32} {Q : Option Value → px_H → Prop}
theorem gcd_st (a b : Nat) : Nat.gcd a b = Nat.gcd b (a % b) := by rw [Nat.gcd_comm a b, Nat.gcd_rec b a, Nat.gcd_comm]
theorem half {b r : Nat} (h0 : 0 < r) (h : r < b) : 2 * (b % r) < b := by
  have h1 := Nat.mod_lt b h0
  have h2 := Nat.div_add_mod b r
  have h3 : 1 ≤ b / r := (Nat.le_div_iff_mul_le h0).mpr (by omega)
  have h4 : r * 1 ≤ r * (b / r) := Nat.mul_le_mul_left r h3
  omega
theorem lN_n0 {b : Nat} (h : 0 < b) (hb : b < 2 ^ 63) : ¬ lN b = 0 := fun q => absurd ((pk_lEQ (b := 0) hb (by omega)).mp q) (by omega)
theorem cd_run (σ : px_Sg) (x y : Int64) : ∀ (k j a b : Nat), a < 2 ^ 63 → b < 2 ^ 63 → b < 2 ^ k → j + 2 * k < 200 → px_W L xs mX2_commonDivisor (9, [some (.long x), none, some (.long y), none, some (.long (lN a)), none, some (.long (lN b)), none, some (.int (cI j)), none, none], []) (sh0, σ) (fun r h => r = some (.long (lN (Nat.gcd a b))) ∧ h = (sh0, σ))
  | 0, j, a, b, ha, hb, hk, hj => by
    have : b = 0 := by rw [Nat.pow_zero] at hk; omega
    subst this
    rw [Nat.gcd_zero_right]
    exact cd_x σ x y (lN a) (by omega) ⟨rfl, rfl⟩
  | k + 1, j, a, b, ha, hb, hk, hj => by
    rcases Nat.eq_zero_or_pos b with z | z
    · subst z
      rw [Nat.gcd_zero_right]
      exact cd_x σ x y (lN a) (by omega) ⟨rfl, rfl⟩
    · refine cd_t σ x y (lN a) (lN b) (lN_n0 z hb) (by omega) ?_
      rw [pk_lRem ha z hb, gcd_st a b]
      have hr := Nat.mod_lt a z
      rcases Nat.eq_zero_or_pos (a % b) with z2 | z2
      · rw [z2, Nat.gcd_zero_right]
        exact cd_x σ x y (lN b) (j := j + 1) (by omega) ⟨rfl, rfl⟩
      · refine cd_t σ x y (lN b) (lN (a % b)) (lN_n0 z2 (by omega)) (j := j + 1) (by omega) ?_
        rw [pk_lRem hb z2 (by omega), gcd_st b (a % b)]
        have h1 := half z2 hr
        have h2 := Nat.mod_lt b z2
        have h3 : 2 ^ (k + 1) = 2 * 2 ^ k := by rw [Nat.pow_succ]; omega
        exact cd_run σ x y k (j + 1 + 1) (a % b) (b % (a % b)) (by omega) (by omega) (by omega) (by omega)
theorem t_commonDivisor (σ : px_Sg) {a b : Nat} (ha : a < 2 ^ 63) (hb : b < 2 ^ 30) : px_E L xs mX2_commonDivisor [.long (lN a), .long (lN b)] σ (some (.long (lN (Nat.gcd a b)))) σ := by
  refine cd_0 σ (lN a) (lN b) ?_
  exact cd_run σ (lN a) (lN b) 30 0 a b ha (by omega) hb (by omega)
theorem iB_cI {m n : Nat} (h : m ≤ n) (hn : n < 1000) : iB (cI m) 0 (nI n) = true := by
  rw [cI_n]
  exact iB_in (nI_pos (by omega)) (nI_le h (by omega))
theorem fm_g (σ : px_Sg) {a m t : Nat} (ha : a < 8) (hm : m ≤ 8) (w q : Int32) (lo S : Int64) : ∀ (n a' b : Nat), b < n → a' < 2 ^ 63 → b < 2 ^ 63 → (0 < a' ∨ 0 < b) → Q (some (.long (if q = 0 then S / lN (Nat.gcd a' b) else lo / lN (Nat.gcd a' b)))) (sh0, σ) → px_W L xs mX3_fever (249, [some (.ref 40), some (.int (cI a)), some (.int (cI m)), some (.int (cI t)), some (.int w), some (.int q), some (.long lo), none, some (.long S), none, some (.long (lN a')), none, some (.long (lN b)), none, none, none], []) (sh0, σ) Q
  | 0, _, _, h, _, _, _, _ => absurd h (by omega)
  | n + 1, a', b, h, h1, h2, h3, hq => by
    rcases Nat.eq_zero_or_pos b with z | z
    · subst z
      rw [Nat.gcd_zero_right] at hq
      exact fm_gx σ ha hm w q lo S (lN a') (lN_n0 (by omega) h1) hq
    · refine fm_gt σ ha hm w q lo S (lN a') (lN b) (lN_n0 z h2) ?_
      rw [pk_lRem h1 z h2]
      rw [gcd_st a' b] at hq
      have hr := Nat.mod_lt a' z
      exact fm_g σ ha hm w q lo S n b (a' % b) (by omega) h2 (by omega) (Or.inl z) hq
theorem fm_kl (σ : px_Sg) {a m t : Nat} (ha : a < 8) (hm : m ≤ 8) (w q : Int32) (lo S : Int64) {r i : Nat} (o : Int64) {K : Nat} (hK : K ≤ 8) (h1 : ∀ j, j < K → ¬ wP (σ 40 14) (σ 41) (σ 49) (σ 42) j = 0) (h2 : K < 8 → wP (σ 40 14) (σ 41) (σ 49) (σ 42) K = 0) (hc : px_W L xs mX3_fever (166, [some (.ref 40), some (.int (cI a)), some (.int (cI m)), some (.int (cI t)), some (.int w), some (.int q), some (.long lo), none, some (.long S), none, some (.int (cI r)), some (.long (o)), none, some (.int (cI i)), some (.int (cI K)), none], []) (sh0, σ) Q) : ∀ (d k : Nat), k + d = K → px_W L xs mX3_fever (144, [some (.ref 40), some (.int (cI a)), some (.int (cI m)), some (.int (cI t)), some (.int w), some (.int q), some (.long lo), none, some (.long S), none, some (.int (cI r)), some (.long (o)), none, some (.int (cI i)), some (.int (cI k)), none], []) (sh0, σ) Q
  | 0, k, h => by
    have : k = K := by omega
    subst this
    by_cases q8 : k < 8
    · exact fm_kx σ ha hm w q lo S o q8 (h2 q8) hc
    · have : k = 8 := by omega
      subst this
      exact fm_k8 σ ha hm w q lo S o hc
  | d + 1, k, h => fm_kt σ ha hm w q lo S o (by omega) (h1 k (by omega)) (fm_kl σ ha hm w q lo S o hK h1 h2 hc d (k + 1) (by omega))
def FI (σ0 : px_Sg) (h p : Nat → Int32) (z : Nat) (τ : px_Sg) : Prop := Sm σ0 τ ∧ τ 40 14 = 1 ∧ (∀ k, k < 8 → τ 49 k = plP h p z k) ∧ τ 40 15 = nI (plH h p z)
theorem p40_Sm (σ : px_Sg) (k : Nat) : Sm σ (s40_paint σ k) := by
  unfold s40_paint
  exact Sm.tr (Sm.upA _ (by omega) _) (Sm.u40 _ (by omega) _ (pu_o _ (by decide) _).symm)
theorem p40_49 (σ : px_Sg) (k : Nat) : s40_paint σ k 49 = upd (σ 49) k (σ 49 k + 1) := by simp [s40_paint, px_up]
theorem p40_15 (σ : px_Sg) (k : Nat) : s40_paint σ k 40 15 = σ 40 15 + 1 := by simp [s40_paint, px_up, upd]
theorem p40_14 (σ : px_Sg) (k : Nat) : s40_paint σ k 40 14 = σ 40 14 := by simp [s40_paint, px_up, upd]
theorem FI.wp {σ0 τ : px_Sg} {h p u : Nat → Int32} {z : Nat} (hF : FI σ0 h p z τ) (hh : σ0 41 = h) (hu : σ0 42 = u) (hl : ∀ k, k < 8 → lo k (u k)) : (∀ j, j < nd h (plP h p z) → ¬ wP (τ 40 14) (τ 41) (τ 49) (τ 42) j = 0) ∧ (nd h (plP h p z) < 8 → wP (τ 40 14) (τ 41) (τ 49) (τ 42) (nd h (plP h p z)) = 0) := by
  obtain ⟨f1, f2, f3, f4⟩ := hF
  obtain ⟨n1, n2, n3⟩ := nd_sp h (plP h p z)
  have e41 : τ 41 = h := by rw [f1.1 41 (by omega), hh]
  have e42 : τ 42 = u := by rw [f1.1 42 (by omega), hu]
  rw [f2, e41, e42]
  refine ⟨fun j hj => ?_, fun hk => ?_⟩
  · unfold wP
    rw [if_neg (by decide), if_pos (by rw [f3 j (by omega)]; exact n2 j hj)]
    decide
  · unfold wP
    rw [if_neg (by decide), if_neg (by rw [f3 _ hk]; exact n3 hk), if_pos]
    refine (sub_iff _ _).mpr fun i hi hx => ?_
    have := lo_bt (hl _ hk) hi hx
    rw [bt_dS (by omega), f3 i (by omega), n2 i this]
    simp; omega
theorem fm_step {σ0 τ : px_Sg} {h p u : Nat → Int32} (hh : σ0 41 = h) (hu : σ0 42 = u) (hl : ∀ k, k < 8 → lo k (u k)) {a m t : Nat} (ha : a < 8) (hm : m ≤ 8) (w q : Int32) (lo S : Int64) {r i : Nat} (him : i < m) (hF : FI σ0 h p (zrN r i) τ)
    (hc : ∀ τ', FI σ0 h p (zrN r (i + 1)) τ' → px_W L xs mX3_fever (110, [some (.ref 40), some (.int (cI a)), some (.int (cI m)), some (.int (cI t)), some (.int w), some (.int q), some (.long lo), none, some (.long S), none, some (.int (cI r)), some (.long (owL r t (i + 1))), none, some (.int (cI (i + 1))), none, none], []) (sh0, τ') Q) : px_W L xs mX3_fever (110, [some (.ref 40), some (.int (cI a)), some (.int (cI m)), some (.int (cI t)), some (.int w), some (.int q), some (.long lo), none, some (.long S), none, some (.int (cI r)), some (.long (owL r t i)), none, some (.int (cI i)), none, none], []) (sh0, τ) Q := by
  have hi : i < 8 := by omega
  obtain ⟨k1, k2⟩ := hF.wp hh hu hl
  obtain ⟨n1, -, -⟩ := nd_sp h (plP h p (zrN r i))
  obtain ⟨f1, f2, f3, f4⟩ := hF
  cases hbr : r.testBit i with
  | true =>
    have hbi : hb (cI r) i = true := by rw [hb_tb hi]; exact hbr
    refine fm_it τ ha hm w q lo S _ him hi hbi ?_
    refine fm_kl τ ha hm w q lo S _ n1 k1 k2 ?_ _ 0 (Nat.zero_add _)
    refine fm_pt τ ha hm w q lo S _ hi hbi _ ?_
    have := hc τ ⟨f1, f2, by rw [zrN, hbr]; exact f3, by rw [zrN, hbr]; exact f4⟩
    rw [owL, hbi] at this
    exact this
  | false =>
    have hbi : hb (cI r) i = false := by rw [hb_tb hi]; exact hbr
    have ez : zrN r (i + 1) = zrN r i + 1 := by rw [zrN, hbr]; rfl
    refine fm_if τ ha hm w q lo S _ him hi hbi ?_
    refine fm_kl τ ha hm w q lo S _ n1 k1 k2 ?_ _ 0 (Nat.zero_add _)
    by_cases K8 : nd h (plP h p (zrN r i)) < 8
    · refine fm_pk τ ha hm w q lo S _ hi hbi K8 ?_
      have := hc (s40_paint τ (nd h (plP h p (zrN r i)))) ⟨f1.tr (p40_Sm _ _), by rw [p40_14]; exact f2, fun k hk => by
        rw [ez, plP, pl1, if_pos K8, p40_49]
        by_cases e : k = nd h (plP h p (zrN r i))
        · subst e; rw [upd_at, upd_at, f3 _ K8]
        · rw [upd_ne _ e, upd_ne _ e, f3 k hk], by rw [ez, plH, if_pos K8, p40_15, f4]; exact nI_1 _⟩
      rw [owL, hbi] at this
      exact this
    · have K : nd h (plP h p (zrN r i)) = 8 := by omega
      rw [K]
      refine fm_p8 τ ha hm w q lo S _ hi hbi ?_
      have := hc τ ⟨f1, f2, fun k hk => by rw [ez, plP, pl1, if_neg K8]; exact f3 k hk, by rw [ez, plH, if_neg K8]; exact f4⟩
      rw [owL, hbi] at this
      exact this
theorem fm_il {σ0 : px_Sg} {h p u : Nat → Int32} (hh : σ0 41 = h) (hu : σ0 42 = u) (hl : ∀ k, k < 8 → lo k (u k)) {a m t : Nat} (ha : a < 8) (hm : m ≤ 8) (w q : Int32) (lo S : Int64) {r : Nat} (hc : ∀ τ', FI σ0 h p (zrN r m) τ' → px_W L xs mX3_fever (110, [some (.ref 40), some (.int (cI a)), some (.int (cI m)), some (.int (cI t)), some (.int w), some (.int q), some (.long lo), none, some (.long S), none, some (.int (cI r)), some (.long (owL r t m)), none, some (.int (cI m)), none, none], []) (sh0, τ') Q) : ∀ (d i : Nat) (τ : px_Sg), i + d = m → FI σ0 h p (zrN r i) τ → px_W L xs mX3_fever (110, [some (.ref 40), some (.int (cI a)), some (.int (cI m)), some (.int (cI t)), some (.int w), some (.int q), some (.long lo), none, some (.long S), none, some (.int (cI r)), some (.long (owL r t i)), none, some (.int (cI i)), none, none], []) (sh0, τ) Q
  | 0, i, τ, hi, hF => by
    have : i = m := by omega
    subst this
    exact hc τ hF
  | d + 1, i, τ, hi, hF => fm_step hh hu hl ha hm w q lo S (by omega) hF (fun τ' hF' => fm_il hh hu hl ha hm w q lo S hc d (i + 1) τ' (by omega) hF')
theorem fm_rr {σ0 τ : px_Sg} {h p u : Nat → Int32} (hh : σ0 41 = h) (hu : σ0 42 = u) (hp : σ0 44 = p) (hl : ∀ k, k < 8 → lo k (u k)) {a m t : Nat} (ha : a < 8) (hm : m ≤ 8) (w q : Int32) (lo S : Int64) {r : Nat} (hr : r < 2 ^ m) (hS : Sm σ0 τ) (hc : ∀ τ', FI σ0 h p (zrN r m) τ' → px_W L xs mX3_fever (110, [some (.ref 40), some (.int (cI a)), some (.int (cI m)), some (.int (cI t)), some (.int w), some (.int q), some (.long lo), none, some (.long S), none, some (.int (cI r)), some (.long (owL r t m)), none, some (.int (cI m)), none, none], []) (sh0, τ') Q) : px_W L xs mX3_fever (87, [some (.ref 40), some (.int (cI a)), some (.int (cI m)), some (.int (cI t)), some (.int w), some (.int q), some (.long lo), none, some (.long S), none, some (.int (cI r)), none, none, none, none, none], []) (sh0, τ) Q := by
  refine fm_row τ ha hm w q lo S hr ?_
  refine fm_il hh hu hl ha hm w q lo S hc m 0 (fmS τ) (Nat.zero_add _) ⟨(hS.tr (asN_Sm τ)).tr (Sm.u40 _ (by omega) _ rfl), ?_, fun k hk => ?_, ?_⟩
  · unfold fmS; rw [pu_s, upd_at]
  · unfold fmS
    rw [pu_o _ (by decide), asN_49, cpn_lt _ _ hk, hS.1 44 (by omega), hp]; rfl
  · unfold fmS; rw [pu_s, upd_ne _ (by decide), asN_15]; rfl
theorem fm_rl1 {σ0 : px_Sg} {h p u : Nat → Int32} (hh : σ0 41 = h) (hu : σ0 42 = u) (hp : σ0 44 = p) (hl : ∀ k, k < 8 → lo k (u k)) {a m t : Nat} (ha : a < 8) (hm : m ≤ 8) (ht : t ≤ 10) (q : Int32) (lo : Int64) (hc : ∀ τ', Sm σ0 τ' → px_W L xs mX3_fever (87, [some (.ref 40), some (.int (cI a)), some (.int (cI m)), some (.int (cI t)), some (.int 1), some (.int q), some (.long lo), none, some (.long (lN (rsN m t (fun z => plH h p z)))), none, some (.int (cI (2 ^ m))), none, none, none, none, none], []) (sh0, τ') Q) : ∀ (d r : Nat) (τ : px_Sg), r + d = 2 ^ m → Sm σ0 τ → px_W L xs mX3_fever (87, [some (.ref 40), some (.int (cI a)), some (.int (cI m)), some (.int (cI t)), some (.int 1), some (.int q), some (.long lo), none, some (.long (lN (sN (fun r => owN r t m * (fun z => plH h p z) (zrN r m)) r))), none, some (.int (cI r)), none, none, none, none, none], []) (sh0, τ) Q
  | 0, r, τ, hr, hS => by
    have : r = 2 ^ m := by omega
    subst this
    exact hc τ hS
  | d + 1, r, τ, hr, hS => by
    refine fm_rr hh hu hp hl ha hm 1 q lo _ (by omega) hS (fun τ' hF => ?_)
    have k := fm_rl1 hh hu hp hl ha hm ht q lo hc d (r + 1) τ' (by omega) hF.1
    rw [sN, ← lN_add, ← lN_mul, ← owL_v ht m hm] at k
    obtain ⟨f1, f2, f3, f4⟩ := hF
    refine fm_s1 τ' ha hm q lo _ _ ?_
    rw [f4, nI_l (by have := plH_le h p (zrN r m); have := zrN_le r m; omega)]
    exact k
theorem fm_rl0 {σ0 : px_Sg} {h p u : Nat → Int32} (hh : σ0 41 = h) (hu : σ0 42 = u) (hp : σ0 44 = p) {n g : Nat → Int32} (hn : σ0 45 = n) (hg : σ0 43 = g) (hl : ∀ k, k < 8 → lo k (u k)) {a m t : Nat} (ha : a < 8) (hm : m ≤ 8) (ht : t ≤ 10) (q : Int32) (lo : Int64) (hc : ∀ τ', Sm σ0 τ' → px_W L xs mX3_fever (87, [some (.ref 40), some (.int (cI a)), some (.int (cI m)), some (.int (cI t)), some (.int 0), some (.int q), some (.long lo), none, some (.long (lN (rsN m t (fun z => if gB n g (dS h (plP h p z)) a = true then 1 else 0)))), none, some (.int (cI (2 ^ m))), none, none, none, none, none], []) (sh0, τ') Q) : ∀ (d r : Nat) (τ : px_Sg), r + d = 2 ^ m → Sm σ0 τ → px_W L xs mX3_fever (87, [some (.ref 40), some (.int (cI a)), some (.int (cI m)), some (.int (cI t)), some (.int 0), some (.int q), some (.long lo), none, some (.long (lN (sN (fun r => owN r t m * (fun z => if gB n g (dS h (plP h p z)) a = true then 1 else 0) (zrN r m)) r))), none, some (.int (cI r)), none, none, none, none, none], []) (sh0, τ) Q
  | 0, r, τ, hr, hS => by
    have : r = 2 ^ m := by omega
    subst this
    exact hc τ hS
  | d + 1, r, τ, hr, hS => by
    refine fm_rr hh hu hp hl ha hm 0 q lo _ (by omega) hS (fun τ' hF => ?_)
    have k := fm_rl0 hh hu hp hn hg hl ha hm ht q lo hc d (r + 1) τ' (by omega) hF.1
    rw [sN, ← lN_add, ← lN_mul, ← owL_v ht m hm] at k
    obtain ⟨f1, f2, f3, f4⟩ := hF
    have eg : gB (τ' 45) (τ' 43) (dS (τ' 41) (τ' 49)) a = gB n g (dS h (plP h p (zrN r m))) a := by
      rw [f1.1 45 (by omega), f1.1 43 (by omega), f1.1 41 (by omega), hn, hg, hh, dS_congr f3]
    cases hx : gB n g (dS h (plP h p (zrN r m))) a with
    | true =>
      refine fm_s0t τ' ha hm q lo _ _ (eg.trans hx) ?_
      simp only [hx, if_true] at k
      rw [show owL r t m * lN 1 = owL r t m by rw [owL_v ht m hm, lN_mul, Nat.mul_one]] at k
      exact k
    | false =>
      refine fm_s0f τ' ha hm q lo _ _ (eg.trans hx) ?_
      simp only [hx, Bool.false_eq_true, if_false] at k
      rw [show owL r t m * lN 0 = 0 by rw [owL_v ht m hm, lN_mul, Nat.mul_zero]; rfl] at k
      exact k
theorem tM_fever_1 {σ0 : px_Sg} {h p u : Nat → Int32} (hh : σ0 41 = h) (hu : σ0 42 = u) (hp : σ0 44 = p) (hl : ∀ k, k < 8 → lo k (u k)) {a m t : Nat} (ha : a < 8) (hm : m ≤ 8) (ht : t ≤ 10) (q : Int32) (hq2 : i2 q = true) (hA : rsN m t (fun z => plH h p z) < 2 ^ 63) : ∃ τ, Sm σ0 τ ∧ px_E L xs mX3_fever [.ref 40, .int (cI a), .int (cI m), .int (cI t), .int 1, .int q] σ0 (some (.long (if q = 0 then lN (rsN m t (fun z => plH h p z)) / lN (Nat.gcd (rsN m t (fun z => plH h p z)) (10 ^ m)) else lN (10 ^ m) / lN (Nat.gcd (rsN m t (fun z => plH h p z)) (10 ^ m))))) τ := by
  have h10 : 10 ^ m ≤ 100000000 := Nat.le_trans (Nat.pow_le_pow_right (by omega) hm) (by decide)
  have h1 : 0 < 10 ^ m := Nat.pow_pos (by omega)
  have key : px_W L xs mX3_fever (0, [some (.ref 40), some (.int (cI a)), some (.int (cI m)), some (.int (cI t)), some (.int 1), some (.int q), none, none, none, none, none, none, none, none, none, none], []) (sh0, σ0) (fun r hx => r = some (.long (if q = 0 then lN (rsN m t (fun z => plH h p z)) / lN (Nat.gcd (rsN m t (fun z => plH h p z)) (10 ^ m)) else lN (10 ^ m) / lN (Nat.gcd (rsN m t (fun z => plH h p z)) (10 ^ m)))) ∧ ∃ τ, hx = (sh0, τ) ∧ Sm σ0 τ) := by
    refine fm_0 σ0 ha hm 1 q (iB_cI hm (by decide)) (iB_cI ht (by decide)) (by decide) hq2 ?_
    rw [lowL_v]
    refine fm_rl1 hh hu hp hl ha hm ht q _ (fun τ' hS => ?_) (2 ^ m) 0 σ0 (Nat.zero_add _) (Sm.rf _)
    refine fm_rx τ' ha hm 1 q _ _ ?_
    exact fm_g τ' ha hm 1 q _ _ (10 ^ m + 1) _ (10 ^ m) (by omega) hA (by omega) (Or.inr h1) ⟨rfl, τ', rfl, hS⟩
  obtain ⟨n', r', h', g1, g2, τ, g3, g4⟩ := key
  exact ⟨τ, g4, n', r', h', g1, g2, g3⟩
theorem tM_fever_0 {σ0 : px_Sg} {h p u : Nat → Int32} (hh : σ0 41 = h) (hu : σ0 42 = u) (hp : σ0 44 = p) {n g : Nat → Int32} (hn : σ0 45 = n) (hg : σ0 43 = g) (hl : ∀ k, k < 8 → lo k (u k)) {a m t : Nat} (ha : a < 8) (hm : m ≤ 8) (ht : t ≤ 10) (q : Int32) (hq2 : i2 q = true) (hA : rsN m t (fun z => if gB n g (dS h (plP h p z)) a = true then 1 else 0) < 2 ^ 63) : ∃ τ, Sm σ0 τ ∧ px_E L xs mX3_fever [.ref 40, .int (cI a), .int (cI m), .int (cI t), .int 0, .int q] σ0 (some (.long (if q = 0 then lN (rsN m t (fun z => if gB n g (dS h (plP h p z)) a = true then 1 else 0)) / lN (Nat.gcd (rsN m t (fun z => if gB n g (dS h (plP h p z)) a = true then 1 else 0)) (10 ^ m)) else lN (10 ^ m) / lN (Nat.gcd (rsN m t (fun z => if gB n g (dS h (plP h p z)) a = true then 1 else 0)) (10 ^ m))))) τ := by
  have h10 : 10 ^ m ≤ 100000000 := Nat.le_trans (Nat.pow_le_pow_right (by omega) hm) (by decide)
  have h1 : 0 < 10 ^ m := Nat.pow_pos (by omega)
  have key : px_W L xs mX3_fever (0, [some (.ref 40), some (.int (cI a)), some (.int (cI m)), some (.int (cI t)), some (.int 0), some (.int q), none, none, none, none, none, none, none, none, none, none], []) (sh0, σ0) (fun r hx => r = some (.long (if q = 0 then lN (rsN m t (fun z => if gB n g (dS h (plP h p z)) a = true then 1 else 0)) / lN (Nat.gcd (rsN m t (fun z => if gB n g (dS h (plP h p z)) a = true then 1 else 0)) (10 ^ m)) else lN (10 ^ m) / lN (Nat.gcd (rsN m t (fun z => if gB n g (dS h (plP h p z)) a = true then 1 else 0)) (10 ^ m)))) ∧ ∃ τ, hx = (sh0, τ) ∧ Sm σ0 τ) := by
    refine fm_0 σ0 ha hm 0 q (iB_cI hm (by decide)) (iB_cI ht (by decide)) (by decide) hq2 ?_
    rw [lowL_v]
    refine fm_rl0 hh hu hp hn hg hl ha hm ht q _ (fun τ' hS => ?_) (2 ^ m) 0 σ0 (Nat.zero_add _) (Sm.rf _)
    refine fm_rx τ' ha hm 0 q _ _ ?_
    exact fm_g τ' ha hm 0 q _ _ (10 ^ m + 1) _ (10 ^ m) (by omega) hA (by omega) (Or.inr h1) ⟨rfl, τ', rfl, hS⟩
  obtain ⟨n', r', h', g1, g2, τ, g3, g4⟩ := key
  exact ⟨τ, g4, n', r', h', g1, g2, g3⟩
theorem sC_12 (σ : px_Sg) : (s_copy_10_1 σ) 10 12 = 0 ∧ (s_copy_10_1 σ) 11 = σ 2 ∧ (s_copy_10_1 σ) 13 = σ 4 ∧ (s_copy_10_1 σ) 14 = σ 5 ∧ (s_copy_10_1 σ) 15 = σ 6 := by
  refine ⟨?_, ?_, ?_, ?_, ?_⟩ <;> simp [s_copy_10_1, px_up, upd]
theorem o_fever {σ : px_Sg} (hR : Rel σ) (p m t w q : Int32) : Op L xs mX2_fever mX3_fever [.int p, .int m, .int t, .int w, .int q] σ := by
  obtain ⟨e1, e2, e3, e4, e5, e6⟩ := hR.2.2.1
  cases h : i8 p with
  | false => exact ⟨_, σ, σ, tX_fever0 σ p m t w q h, tM_fever0 σ p m t w q h, hR⟩
  | true =>
    obtain ⟨k, hk, rfl⟩ := i8_ex h
    cases hv : (iB m 0 8 && iB t 0 10 && i2 w && i2 q) with
    | false => exact ⟨_, σ, σ, tX_fever1 σ hk m t w q hv, tM_fever1 σ hk m t w q hv, hR⟩
    | true =>
      simp only [Bool.and_eq_true] at hv
      obtain ⟨⟨⟨v1, v2⟩, v3⟩, v4⟩ := hv
      obtain ⟨m, hm, rfl⟩ := iB_lit (x := m) 8 (by decide) v1
      obtain ⟨t, ht, rfl⟩ := iB_lit (x := t) 10 (by decide) v2
      have hz : σ 1 9 = 0 ∨ σ 1 9 = 1 := hR.1.2.2.2.2.2.1
      have hl := hR.1.2.1
      obtain ⟨c0, c1, c2, c3, c4⟩ := sC_12 σ
      have hS : Sm σ (plI (s_copy_10_1 σ) (m + 1)) := (Sm.copy σ).tr (Sm.plI _ _)
      have h10 : 10 ^ m ≤ 100000000 := Nat.le_trans (Nat.pow_le_pow_right (by omega) hm) (by decide)
      have h1 : 0 < 10 ^ m := Nat.pow_pos (by omega)
      have b41 : (plI (s_copy_10_1 σ) (m + 1)) 41 = σ 2 := by rw [hS.1 41 (by omega), e1]
      have b42 : (plI (s_copy_10_1 σ) (m + 1)) 42 = σ 3 := by rw [hS.1 42 (by omega), e2]
      have b43 : (plI (s_copy_10_1 σ) (m + 1)) 43 = σ 4 := by rw [hS.1 43 (by omega), e3]
      have b44 : (plI (s_copy_10_1 σ) (m + 1)) 44 = σ 5 := by rw [hS.1 44 (by omega), e4]
      have b45 : (plI (s_copy_10_1 σ) (m + 1)) 45 = σ 6 := by rw [hS.1 45 (by omega), e5]
      rcases i2_ex v3 with rfl | rfl
      · have hU := t_feverChances (L := L) (xs := xs) σ hk (m := m) (t := t) hm hz
        rw [fcL_v hm ht (V := fun z => if gB (σ 6) (σ 4) (dS (σ 2) (plP (σ 2) (σ 5) z)) k = true then 1 else 0) (fun p _ => by
          obtain ⟨a1, a2, a3, a4, a5⟩ := plI_v c0 p
          rw [a1, a2, a3, a4, c1, c2, c3, c4]) (m + 1) (Nat.le_refl _)] at hU
        rw [show sN (fun p => wN m t p * (fun z => if gB (σ 6) (σ 4) (dS (σ 2) (plP (σ 2) (σ 5) z)) k = true then 1 else 0) p) (m + 1) = rsN m t (fun z => if gB (σ 6) (σ 4) (dS (σ 2) (plP (σ 2) (σ 5) z)) k = true then 1 else 0) from cs_rs m t _] at hU
        have hA : rsN m t (fun z => if gB (σ 6) (σ 4) (dS (σ 2) (plP (σ 2) (σ 5) z)) k = true then 1 else 0) < 2 ^ 63 := rs_lt hm ht (fun z _ => by show (if _ then 1 else 0) ≤ 8; split <;> omega)
        obtain ⟨τ, g1, g2⟩ := tM_fever_0 (L := L) (xs := xs) b41 b42 b44 b45 b43 hl hk hm ht q v4 hA
        refine Op.of (tX_fever_0 σ hk hm ht q v4 hU (by rw [pwL_v]; exact t_commonDivisor _ hA (by omega)) (lN_n0 (Nat.gcd_pos_of_pos_right _ h1) (by have := Nat.gcd_le_right (rsN m t (fun z => if gB (σ 6) (σ 4) (dS (σ 2) (plP (σ 2) (σ 5) z)) k = true then 1 else 0)) h1; omega))) g2 (by rw [pwL_v]) (hR.sm (hS.tr g1))
      · have hU := t_feverHours (L := L) (xs := xs) σ (m := m) (t := t) hm hz
        rw [fhL_v hm ht (V := fun z => plH (σ 2) (σ 5) z) (fun p hp => by
          obtain ⟨a1, a2, a3, a4, a5⟩ := plI_v c0 p
          rw [a5, c1, c3]
          exact ⟨rfl, by have := plH_le (σ 2) (σ 5) p; show plH (σ 2) (σ 5) p ≤ 8; omega⟩) (m + 1) (Nat.le_refl _)] at hU
        rw [show sN (fun p => wN m t p * (fun z => plH (σ 2) (σ 5) z) p) (m + 1) = rsN m t (fun z => plH (σ 2) (σ 5) z) from cs_rs m t _] at hU
        have hA : rsN m t (fun z => plH (σ 2) (σ 5) z) < 2 ^ 63 := rs_lt hm ht (fun z hz => by have := plH_le (σ 2) (σ 5) z; show plH (σ 2) (σ 5) z ≤ 8; omega)
        obtain ⟨τ, g1, g2⟩ := tM_fever_1 (L := L) (xs := xs) b41 b42 b44 hl hk hm ht q v4 hA
        refine Op.of (tX_fever_1 σ hk hm ht q v4 hU (by rw [pwL_v]; exact t_commonDivisor _ hA (by omega)) (lN_n0 (Nat.gcd_pos_of_pos_right _ h1) (by have := Nat.gcd_le_right (rsN m t (fun z => plH (σ 2) (σ 5) z)) h1; omega))) g2 (by rw [pwL_v]) (hR.sm (hS.tr g1))
end OPS17
