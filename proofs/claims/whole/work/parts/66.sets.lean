section OPS14
/-! tables of sets -/
def tab (f : Nat → Int32) (B : Nat → Bool) : Prop := ∀ s, s < 256 → f s = bo (B s)
def sb (h s : Nat) : Bool := decide ((cI h &&& (cI s ^^^ -1)) = 0)
theorem tb8 {h i : Nat} (hh : h < 256) (hi : 8 ≤ i) : h.testBit i = false := Nat.testBit_lt_two_pow (Nat.lt_of_lt_of_le (show h < 2 ^ 8 by omega) (Nat.pow_le_pow_right (by omega) hi))
theorem sb_t {h s : Nat} (hh : h < 256) : sb h s = true ↔ ∀ i, i < 8 → h.testBit i = true → s.testBit i = true := by
  unfold sb
  rw [decide_eq_true_eq, sub_iff, cI_n, cI_n]
  constructor
  · intro q i hi hx
    have := q i (by omega) (by rw [bt_nI (by omega)]; exact hx)
    rwa [bt_nI (by omega)] at this
  · intro q i hi hx
    rw [bt_nI hi] at hx ⊢
    rcases Nat.lt_or_ge i 8 with h8 | h8
    · exact q i h8 hx
    · rw [tb8 hh h8] at hx; cases hx
def upB (B : Nat → Bool) (s : Nat) : Nat → Bool
  | 0 => false
  | h + 1 => upB B s h || (B h && sb h s)
theorem upB_iff {B : Nat → Bool} {s : Nat} : ∀ m, upB B s m = true ↔ ∃ h, h < m ∧ B h = true ∧ sb h s = true
  | 0 => by simp [upB]
  | m + 1 => by
    rw [upB, Bool.or_eq_true, Bool.and_eq_true, upB_iff m]
    constructor
    · rintro (⟨h, h1, h2⟩ | h2)
      · exact ⟨h, by omega, h2⟩
      · exact ⟨m, by omega, h2⟩
    · rintro ⟨h, h1, h2⟩
      by_cases e : h = m
      · subst e; exact Or.inr h2
      · exact Or.inl ⟨h, by omega, h2⟩
def upS (B : Nat → Bool) (s : Nat) : Bool := upB B s 256
theorem hb_tb {i p : Nat} (hp : p < 8) : hb (cI i) p = i.testBit p := by rw [hb_bt hp, cI_n, bt_nI (by omega)]
theorem t255 : ∀ j, j < 8 → Nat.testBit 255 j = true := by decide
theorem ex_bt {s k j : Nat} (hj : j < 8) : (ex s k).testBit j = (s.testBit j && !decide (k = j)) := by
  unfold ex
  rw [Nat.testBit_and, Nat.testBit_xor, t255 j hj, Nat.testBit_two_pow, Bool.true_xor]
theorem ex_lt {s k : Nat} (hk : k < 8) (h : s.testBit k = true) : ex s k < s := by
  rcases Nat.lt_or_ge (ex s k) s with q | q
  · exact q
  · exfalso
    have e : ex s k = s := Nat.le_antisymm (ex_le s k) q
    have := ex_bt (s := s) (k := k) hk
    rw [e, h] at this
    simp at this
def ayB (B : Nat → Bool) (i : Nat) : Nat → Bool
  | 0 => B i
  | k + 1 => ayB B i k || (hb (cI i) k && upS B (ex i k))
theorem ayB_iff {B : Nat → Bool} {i : Nat} : ∀ m, ayB B i m = true ↔ B i = true ∨ ∃ p, p < m ∧ hb (cI i) p = true ∧ upS B (ex i p) = true
  | 0 => by simp [ayB]
  | m + 1 => by
    rw [ayB, Bool.or_eq_true, Bool.and_eq_true, ayB_iff m]
    constructor
    · rintro ((h | ⟨p, h1, h2⟩) | h2)
      · exact Or.inl h
      · exact Or.inr ⟨p, by omega, h2⟩
      · exact Or.inr ⟨m, by omega, h2⟩
    · rintro (h | ⟨p, h1, h2⟩)
      · exact Or.inl (Or.inl h)
      · by_cases e : p = m
        · subst e; exact Or.inr h2
        · exact Or.inl (Or.inr ⟨p, by omega, h2⟩)
theorem ayB_8 {B : Nat → Bool} {i : Nat} (hi : i < 256) : ayB B i 8 = upS B i := by
  rw [Bool.eq_iff_iff, ayB_iff, upS, upB_iff]
  constructor
  · rintro (h | ⟨p, h1, h2, h3⟩)
    · exact ⟨i, hi, h, (sb_t hi).mpr fun j _ hx => hx⟩
    · rw [upS, upB_iff] at h3
      obtain ⟨h, g1, g2, g3⟩ := h3
      refine ⟨h, g1, g2, (sb_t g1).mpr fun j hj hx => ?_⟩
      have := (sb_t g1).mp g3 j hj hx
      rw [ex_bt hj, Bool.and_eq_true] at this
      exact this.1
  · rintro ⟨h, g1, g2, g3⟩
    have g3 := (sb_t g1).mp g3
    by_cases e : h = i
    · subst e; exact Or.inl g2
    · right
      have : ∃ p, p < 8 ∧ i.testBit p = true ∧ h.testBit p = false := by
        apply Classical.byContradiction
        intro hn
        refine e (Nat.eq_of_testBit_eq fun j => ?_)
        rcases Nat.lt_or_ge j 8 with h8 | h8
        · cases a : h.testBit j with
          | true => rw [g3 j h8 a]
          | false =>
            cases b : i.testBit j with
            | false => rfl
            | true => exact absurd ⟨j, h8, b, a⟩ hn
        · rw [tb8 g1 h8, tb8 hi h8]
      obtain ⟨p, p1, p2, p3⟩ := this
      refine ⟨p, p1, by rw [hb_tb p1]; exact p2, ?_⟩
      rw [upS, upB_iff]
      refine ⟨h, g1, g2, (sb_t g1).mpr fun j hj hx => ?_⟩
      rw [ex_bt hj, g3 j hj hx, Bool.true_and, Bool.not_eq_true', decide_eq_false_iff_not]
      intro z
      rw [← z, p3] at hx; cases hx
theorem bo_1 {b : Bool} : (bo b = 1) = (b = true) := by cases b <;> simp [bo]
theorem mkI_v {B : Nat → Bool} {f : Nat → Int32} {i : Nat} (hf : ∀ s, s < i → f s = bo (upS B s)) (h0 : f i = bo (B i)) : ∀ k, k ≤ 8 → mkI i f k = upd f i (bo (ayB B i k))
  | 0, _ => by rw [ayB, ← h0, upd_same]; rfl
  | k + 1, hk => by
    have ih := mkI_v hf h0 k (by omega)
    cases hh : hb (cI i) k with
    | false => rw [mkI_f (by rw [hh]; simp), ih, ayB, hh, Bool.false_and, Bool.or_false]
    | true =>
      have hl := ex_lt (show k < 8 by omega) (by rw [← hb_tb (by omega)]; exact hh)
      have hv : mkI i f k (ex i k) = bo (upS B (ex i k)) := by rw [ih, upd_ne _ (by omega), hf _ hl]
      cases hu : upS B (ex i k) with
      | false => rw [mkI_f (by rw [hv, hu]; simp [bo]), ih, ayB, hu, Bool.and_false, Bool.or_false]
      | true =>
        rw [mkI_t (by rw [hv, hu, hh]; simp [bo]), ih, upd_upd, ayB, hh, hu]
        simp [bo]
theorem mkO_v {B : Nat → Bool} {f : Nat → Int32} (h : tab f B) : ∀ i, i ≤ 256 → ∀ s, s < 256 → mkO f i s = if s < i then bo (upS B s) else bo (B s)
  | 0, _, s, hs => by rw [if_neg (by omega)]; exact h s hs
  | i + 1, hi, s, hs => by
    have ih := mkO_v h i (by omega)
    rw [mkO, mkI_v (B := B) (fun s hs => by rw [ih s (by omega), if_pos hs]) (by rw [ih i (by omega), if_neg (by omega)]) 8 (Nat.le_refl _), ayB_8 (by omega)]
    by_cases e : s = i
    · subst e; rw [upd_at, if_pos (by omega)]
    · rw [upd_ne _ e, ih s hs]
      by_cases q : s < i
      · rw [if_pos q, if_pos (by omega)]
      · rw [if_neg q, if_neg (by omega)]
theorem mkO_tab {B : Nat → Bool} {f : Nat → Int32} (h : tab f B) : tab (mkO f 256) (upS B) := fun s hs => by rw [mkO_v h 256 (Nat.le_refl _) s hs, if_pos hs]
theorem kpT_v {ok B : Nat → Bool} {f : Nat → Int32} (h : tab f B) : ∀ i, i ≤ 256 → ∀ s, s < 256 → kpT ok f i s = if s < i then bo (B s && ok s) else bo (B s)
  | 0, _, s, hs => by rw [if_neg (by omega)]; exact h s hs
  | i + 1, hi, s, hs => by
    have ih := kpT_v (ok := ok) h i (by omega)
    have hv : kpT ok f i i = bo (B i) := by rw [ih i (by omega), if_neg (by omega)]
    by_cases e : s = i
    · subst e
      rw [if_pos (by omega)]
      cases hb : B s with
      | false => rw [kpT_f (by rw [hv, hb]; simp [bo]), hv, hb]; rfl
      | true =>
        cases hk : ok s with
        | true => rw [kpT_f (by rw [hk]; simp), hv, hb]; rfl
        | false => rw [kpT_t (by rw [hv, hb, hk]; simp [bo]), upd_at]; rfl
    · have : kpT ok f (i + 1) s = kpT ok f i s := by
        by_cases c : (decide (kpT ok f i i = 1) && !ok i) = true
        · rw [kpT_t c, upd_ne _ e]
        · rw [kpT_f c]
      rw [this, ih s hs]
      by_cases q : s < i
      · rw [if_pos q, if_pos (by omega)]
      · rw [if_neg q, if_neg (by omega)]
theorem kpT_tab {ok B : Nat → Bool} {f : Nat → Int32} (h : tab f B) : tab (kpT ok f 256) (fun s => B s && ok s) := fun s hs => by rw [kpT_v h 256 (Nat.le_refl _) s hs, if_pos hs]
theorem frB_up {c : Nat → Int32} {B : Nat → Bool} (h : tab c B) {s : Nat} : ∀ m, m ≤ 256 → frB c s m = upB B s m
  | 0, _ => rfl
  | m + 1, hm => by
    rw [frB, upB, frB_up h m (by omega), h m (by omega)]
    cases B m <;> simp [bo, sb]
/-! the steps with a sight, one after the other -/
def RB (ok : Nat → Nat → Bool) (sm : Nat → Bool) (B0 : Nat → Bool) : Nat → Nat → Bool
  | 0 => B0
  | t + 1 => if sm t = true then (fun s => upS (RB ok sm B0 t) s && ok t s) else RB ok sm B0 t
theorem RB_skip {ok : Nat → Nat → Bool} {sm B0 : Nat → Bool} {t : Nat} : ∀ d, (∀ w, t ≤ w → w < t + d → sm w = false) → RB ok sm B0 (t + d) = RB ok sm B0 t
  | 0, _ => rfl
  | d + 1, h => by
    show RB ok sm B0 (t + d + 1) = _
    rw [RB, if_neg (by rw [h (t + d) (by omega) (by omega)]; decide), RB_skip d (fun w h1 h2 => h w h1 (by omega))]
def NX (tv : Nat → Nat) (ns t : Nat) (st : Int32) : Prop := (st = -6 ∧ ∀ i, i < ns → tv i < t) ∨ ∃ v, st = nI v ∧ t ≤ v ∧ v ≤ 60 ∧ (∃ i, i < ns ∧ tv i = v) ∧ ∀ i, i < ns → t ≤ tv i → v ≤ tv i
def ctG (tv : Nat → Nat) (t : Nat) : Nat → Nat
  | 0 => 0
  | n + 1 => ctG tv t n + if t ≤ tv n then 1 else 0
theorem ctG_le (tv : Nat → Nat) (t : Nat) : ∀ n, ctG tv t n ≤ n
  | 0 => Nat.le_refl _
  | n + 1 => by
    have := ctG_le tv t n
    rw [ctG]
    split <;> omega
theorem ctG_mono {tv : Nat → Nat} {t t' : Nat} (h : t ≤ t') : ∀ n, ctG tv t' n ≤ ctG tv t n
  | 0 => Nat.le_refl _
  | n + 1 => by
    have := ctG_mono (tv := tv) h n
    rw [ctG, ctG]
    split <;> split <;> omega
theorem ctG_0 {tv : Nat → Nat} {t : Nat} : ∀ n, ctG tv t n = 0 → ∀ i, i < n → tv i < t
  | 0, _, i, hi => absurd hi (by omega)
  | n + 1, h, i, hi => by
    rw [ctG] at h
    by_cases e : i = n
    · subst e
      rcases Nat.lt_or_ge (tv i) t with q | q
      · exact q
      · rw [if_pos q] at h; omega
    · exact ctG_0 n (by omega) i (by omega)
theorem ctG_less {tv : Nat → Nat} {t v : Nat} (htv : t ≤ v) : ∀ n, (∃ i, i < n ∧ tv i = v) → ctG tv (v + 1) n + 1 ≤ ctG tv t n
  | 0, ⟨i, hi, _⟩ => absurd hi (by omega)
  | n + 1, ⟨i, hi, h⟩ => by
    rw [ctG, ctG]
    by_cases e : i = n
    · subst e
      rw [if_neg (by omega), if_pos (by omega)]
      have := ctG_mono (tv := tv) (t := t) (t' := v + 1) (by omega) i
      omega
    · have := ctG_less htv n ⟨i, by omega, h⟩
      split <;> split <;> omega
theorem fh_chain {ok : Nat → Nat → Bool} {sm B0 : Nat → Bool} {mk : (Nat → Int32) → Int32 → Nat → Int32} {nx : Int32 → Int32} {tv : Nat → Nat} {ns : Nat}
    (hsm : ∀ t, t ≤ 60 → (sm t = true ↔ ∃ i, i < ns ∧ tv i = t)) (htv : ∀ i, i < ns → tv i ≤ 60)
    (hmk : ∀ t f B, t ≤ 60 → tab f B → tab (mk f (nI t)) (fun s => upS B s && ok t s))
    (hnx : ∀ t, t ≤ 60 → NX tv ns (t + 1) (nx (nI t))) :
    ∀ d t f st, t ≤ 61 → tab f (RB ok sm B0 t) → NX tv ns t st → ctG tv t ns ≤ d → tab (fhR mk nx d f st) (RB ok sm B0 61) := by
  have hno : ∀ t, t ≤ 61 → (∀ i, i < ns → tv i < t) → RB ok sm B0 61 = RB ok sm B0 t := fun t ht h => by
    have := RB_skip (ok := ok) (sm := sm) (B0 := B0) (t := t) (61 - t) (fun w h1 h2 => by
      cases hw : sm w with
      | false => rfl
      | true =>
        obtain ⟨i, h3, h4⟩ := (hsm w (by omega)).mp hw
        have := h i h3
        omega)
    rw [show t + (61 - t) = 61 by omega] at this
    exact this
  intro d
  induction d with
  | zero =>
    intro t f st ht hf hN hc
    rw [hno t ht (ctG_0 ns (by omega))]
    exact hf
  | succ d ih =>
    intro t f st ht hf hN hc
    rw [fhR]
    rcases hN with ⟨h1, h2⟩ | ⟨v, h1, h2, h3, h4, h5⟩
    · rw [if_pos h1, hno t ht h2]; exact hf
    · have hv : RB ok sm B0 v = RB ok sm B0 t := by
        have := RB_skip (ok := ok) (sm := sm) (B0 := B0) (t := t) (v - t) (fun w g1 g2 => by
          cases hw : sm w with
          | false => rfl
          | true =>
            obtain ⟨i, h6, h7⟩ := (hsm w (by omega)).mp hw
            have := h5 i h6 (by omega)
            omega)
        rw [show t + (v - t) = v by omega] at this
        exact this
      rw [if_neg (by rw [h1, ← cI_n]; exact cI_n6 (by omega)), h1]
      refine ih (v + 1) _ _ (by omega) ?_ (hnx v h3) (by have := ctG_less h2 ns h4; omega)
      rw [RB, if_pos ((hsm v h3).mpr h4), hv]
      exact hmk v f _ h3 hf
theorem nxs_NX {ss : Nat → Int32} {tv : Nat → Nat} {st : Int32} {t : Nat} (hst : ∀ v, v ≤ 60 → (nI v ≤ st ↔ v < t)) : ∀ n, (∀ i, i < n → tv i ≤ 60 ∧ ss i = nI (tv i)) → NX tv n t (nxs ss st n)
  | 0, _ => Or.inl ⟨rfl, fun i hi => absurd hi (by omega)⟩
  | n + 1, h => by
    have ih := nxs_NX hst n (fun i hi => h i (by omega))
    obtain ⟨a1, a2⟩ := h n (by omega)
    rw [nxs, a2]
    by_cases c : nI (tv n) ≤ st
    · rw [if_pos c]
      have c := (hst (tv n) a1).mp c
      rcases ih with ⟨h1, h2⟩ | ⟨v, h1, h2, h3, ⟨i, h4, h4'⟩, h5⟩
      · refine Or.inl ⟨h1, fun i hi => ?_⟩
        by_cases e : i = n
        · subst e; exact c
        · exact h2 i (by omega)
      · refine Or.inr ⟨v, h1, h2, h3, ⟨i, by omega, h4'⟩, fun i hi hx => ?_⟩
        by_cases e : i = n
        · subst e; omega
        · exact h5 i (by omega) hx
    · rw [if_neg c]
      have c : t ≤ tv n := Nat.le_of_not_lt fun q => c ((hst (tv n) a1).mpr q)
      rcases ih with ⟨h1, h2⟩ | ⟨v, h1, h2, h3, ⟨i, h4, h4'⟩, h5⟩
      · rw [if_pos h1]
        refine Or.inr ⟨tv n, rfl, c, a1, ⟨n, by omega, rfl⟩, fun i hi hx => ?_⟩
        by_cases e : i = n
        · subst e; omega
        · have := h2 i (by omega); omega
      · rw [h1, if_neg (by rw [← cI_n]; exact cI_n6 (by omega))]
        by_cases q : nI v ≤ nI (tv n)
        · rw [if_pos q]
          have q := (nI_leI (by omega) (by omega)).mp q
          refine Or.inr ⟨v, rfl, h2, h3, ⟨i, by omega, h4'⟩, fun i hi hx => ?_⟩
          by_cases e : i = n
          · subst e; exact q
          · exact h5 i (by omega) hx
        · rw [if_neg q]
          have q : ¬ v ≤ tv n := fun z => q ((nI_leI (by omega) (by omega)).mpr z)
          refine Or.inr ⟨tv n, rfl, c, a1, ⟨n, by omega, rfl⟩, fun i hi hx => ?_⟩
          by_cases e : i = n
          · subst e; omega
          · have := h5 i (by omega) hx; omega
/-! what fits the sights -/
theorem ftR_ok {u n g q ss sa : Nat → Int32} {cl st : Int32} {ac : Nat → Nat} {s ns : Nat} (h1 : ∀ i, i < ns → q (3 * i) = ss i) (h2 : ∀ i, i < ns → sa i = cI (ac i) ∧ ac i < 8) (h3 : ∀ i, i < ns → q (3 * i + 2) = bo (hb cl i)) : ∀ m, m ≤ ns → ftR u n g q ac st s m = (cS u (cI s) && ftB ss sa cl (aS n (pS g (cI s))) st m)
  | 0, _ => by rw [ftR, ftB, Bool.and_true]
  | m + 1, hm => by
    have hg : hx (aS n (pS g (cI s))) (sa m) = gB n g (cI s) (ac m) := by
      rw [(h2 m (by omega)).1]
      exact hb_mk (h2 m (by omega)).2
    have hd : decide (q (3 * m + 2) = 1) = hb cl m := by rw [h3 m (by omega)]; cases hb cl m <;> simp [bo]
    rw [ftR, ftB, ftR_ok h1 h2 h3 m (by omega), h1 m (by omega), hg, hd, Bool.and_assoc]
theorem smB_iff {q : Nat → Int32} {st : Int32} : ∀ n, smB q st n = true ↔ ∃ i, i < n ∧ q (3 * i) = st
  | 0 => by simp [smB]
  | n + 1 => by
    rw [smB, Bool.or_eq_true, decide_eq_true_eq, smB_iff n]
    constructor
    · rintro (⟨h, h1, h2⟩ | h2)
      · exact ⟨h, by omega, h2⟩
      · exact ⟨n, by omega, h2⟩
    · rintro ⟨h, h1, h2⟩
      by_cases e : h = n
      · subst e; exact Or.inr h2
      · exact Or.inl ⟨h, by omega, h2⟩
end OPS14
