/-! THE STEPS OF A TRIAL, as numbers: what is painted, in force, whether he sits; hours, made, repealed -/
abbrev TS : Type := (Nat → Int32) × Int32 × Int32 × Int32 × Int32 × Int32
/-- the first index of a set: counting bits -/
theorem bc_pcn : ∀ j, j < 256 → bc (nI j) = pcn (nI j) 8 := by decide +kernel
theorem lo8_ex {x : Int32} (h : lo 8 x) : ∃ j, j < 256 ∧ x = nI j := by
  refine ⟨x.toBitVec.toNat % 256, by omega, ?_⟩
  apply b_ext
  intro i hi
  have h1 : bt (nI (x.toBitVec.toNat % 256)) i = (x.toBitVec.toNat % 256).testBit i := by
    show (Int32.ofNat (x.toBitVec.toNat % 256)).toBitVec.getLsbD i = _
    rw [show (Int32.ofNat (x.toBitVec.toNat % 256)).toBitVec = BitVec.ofNat 32 (x.toBitVec.toNat % 256) from rfl, BitVec.getLsbD_ofNat]
    simp [hi]
  rw [h1, show (256 : Nat) = 2 ^ 8 from rfl, Nat.testBit_mod_two_pow]
  by_cases h8 : i < 8
  · simp only [h8, decide_true, Bool.true_and]
    rfl
  · rw [h i (by omega) hi]
    simp [h8]
theorem bc_lo {x : Int32} (h : lo 8 x) : bc x = pcn x 8 := by
  obtain ⟨j, hj, rfl⟩ := lo8_ex h
  exact bc_pcn j hj
theorem lo_and {k : Nat} {x : Int32} (y : Int32) (h : lo k x) : lo k (x &&& y) := fun j h1 h2 => by rw [b_and, h j h1 h2]; rfl
theorem pcn_congr {x y : Int32} : ∀ {n : Nat}, (∀ k, k < n → hb x k = hb y k) → pcn x n = pcn y n
  | 0, _ => rfl
  | n + 1, h => by rw [pcn, pcn, pcn_congr (fun k hk => h k (by omega)), h n (by omega)]
theorem bt_aS {n : Nat → Int32} {w : Int32} {i : Nat} (hi : i < 32) : bt (aS n w) i = (decide (i < 8) && decide ((n i &&& (w ^^^ -1)) = 0)) := bt_mk _ 8 (by omega) i hi
/-- one by one, or all at once -/
theorem rpF_bt (n : Nat → Int32) (w f : Int32) : ∀ a, a ≤ 8 → ∀ i, i < 32 → bt (rpF n w f a) i = (bt f i && (!decide (i < a) || decide ((n i &&& (w ^^^ -1)) = 0)))
  | 0, _, i, hi => by simp [rpF]
  | a + 1, ha, i, hi => by
    have ih := rpF_bt n w f a (by omega) i hi
    have ho := on_bt a (by omega) i hi
    rw [rpF]
    by_cases e : i = a
    · subst e
      have hb1 : hb (rpF n w f i) i = bt f i := by rw [hb_bt (by omega), ih]; simp
      cases hf : bt f i with
      | false =>
        rw [hb1, hf]
        simp only [Bool.false_eq_true, if_false]
        rw [ih, hf]; rfl
      | true =>
        rw [hb1, hf]
        simp only [if_true]
        by_cases hn : (n i &&& (w ^^^ -1)) = 0
        · rw [if_pos hn, ih, hf, decide_eq_true hn]; simp
        · rw [if_neg hn, b_and, bt_not _ hi, ho, decide_eq_false hn]; simp
    · have h9 : bt (rpF n w f a) i = (bt f i && (!decide (i < a + 1) || decide ((n i &&& (w ^^^ -1)) = 0))) := by
        rw [ih]
        rcases Nat.lt_or_ge i a with q | q
        · simp [q, Nat.lt_succ_of_lt q]
        · have h1 : ¬ i < a := by omega
          have h2 : ¬ i < a + 1 := by omega
          simp [h1, h2]
      split
      · split
        · exact h9
        · rw [b_and, bt_not _ hi, ho, h9]; simp [e]
      · exact h9
theorem rpF_aS {n : Nat → Int32} {w f : Int32} (hf : lo 8 f) : rpF n w f 8 = f &&& aS n w := by
  apply b_ext
  intro i hi
  rw [rpF_bt n w f 8 (by omega) i hi, b_and, bt_aS hi]
  by_cases h8 : i < 8
  · simp [h8]
  · rw [hf i (by omega) hi]; rfl
theorem rpC_pcn (n : Nat → Int32) (w f r : Int32) : ∀ a, a ≤ 8 → rpC n w f r a = r + pcn (f &&& (aS n w ^^^ -1)) a
  | 0, _ => by rw [rpC, pcn]; simp
  | a + 1, ha => by
    have ih := rpC_pcn n w f r a (by omega)
    have hb1 : hb (rpF n w f a) a = bt f a := by rw [hb_bt (by omega), rpF_bt n w f a (by omega) a (by omega)]; simp
    have hb2 : hb (f &&& (aS n w ^^^ -1)) a = (bt f a && !decide ((n a &&& (w ^^^ -1)) = 0)) := by
      rw [hb_bt (by omega), b_and, bt_not _ (by omega), bt_aS (by omega)]
      simp [show a < 8 by omega]
    rw [rpC, pcn, hb1, hb2, ih]
    cases hf : bt f a with
    | false => simp [bo]
    | true =>
      by_cases hn : (n a &&& (w ^^^ -1)) = 0
      · simp only [hn, if_true, decide_true, Bool.not_true, Bool.and_false, bo, Bool.false_eq_true, if_false]; simp
      · simp only [hn, if_true, if_false, decide_false, Bool.not_false, Bool.and_true, bo]; rw [Int32.add_assoc]
theorem bt255 : ∀ i, i < 32 → bt 255 i = decide (i < 8) := by decide +kernel
theorem aS_255 {n : Nat → Int32} (hn : ∀ k, k < 8 → lo 8 (n k)) {f : Int32} (hf : lo 8 f) : f &&& aS n 255 = f ∧ f &&& (aS n 255 ^^^ -1) = 0 := by
  have h1 : ∀ i, i < 8 → bt (aS n 255) i = true := fun i hi => by
    rw [bt_aS (by omega)]
    have : (n i &&& ((255 : Int32) ^^^ -1)) = 0 := (sub_iff _ _).mpr fun j hj hx => by
      rw [bt255 j hj]
      simp [lo_bt (hn i hi) hj hx]
    rw [decide_eq_true this]; simp [hi]
  refine ⟨b_ext fun i hi => ?_, b_ext fun i hi => ?_⟩
  · rw [b_and]
    by_cases h8 : i < 8
    · rw [h1 i h8]; simp
    · rw [hf i (by omega) hi]; rfl
  · rw [b_and, bt_not _ hi, b_0]
    by_cases h8 : i < 8
    · rw [h1 i h8]; simp
    · rw [hf i (by omega) hi]; rfl
/-- why a step can not be, and what is behind it -/
def rsn (h u g n : Nat → Int32) (kn k : Nat) (X : TS) : Int32 := match kn with
  | 1 => wP X.2.2.1 h X.1 u k
  | 2 => wO X.1 k
  | 3 => 0
  | _ => wM X.2.1 (pw X.2.2.1 h X.1 g) n k
def ovr (h u g n : Nat → Int32) (k : Nat) (X : TS) : TS := let p := unp X.1 (abS u (on k)) 8
  let a := aS n (pw X.2.2.1 h p g)
  (p, X.2.1 &&& a, X.2.2.1, X.2.2.2.1, X.2.2.2.2.1, X.2.2.2.2.2 + bc (X.2.1 &&& (a ^^^ -1)))
def stp (h u g n : Nat → Int32) (kn k : Nat) (X : TS) : TS := match kn with
  | 1 => (upd X.1 k (X.1 k + 1), X.2.1, X.2.2.1, X.2.2.2.1 + 1, X.2.2.2.2.1, X.2.2.2.2.2)
  | 2 => ovr h u g n k X
  | 3 => (X.1, X.2.1, (if X.2.2.1 = 0 then 1 else 0), X.2.2.2.1, X.2.2.2.2.1, X.2.2.2.2.2)
  | _ => (X.1, X.2.1 ||| on k, X.2.2.1, X.2.2.2.1, X.2.2.2.2.1 + 1, X.2.2.2.2.2)
/-- the class's trial is X -/
def rC (σ : px_Sg) (X : TS) : Prop := σ 14 = X.1 ∧ σ 10 8 = X.2.1 ∧ σ 10 9 = X.2.2.1 ∧ σ 10 12 = X.2.2.2.1 ∧ σ 10 13 = X.2.2.2.2.1 ∧ σ 10 14 = X.2.2.2.2.2
/-- the reference's now is X -/
def rM (σ : px_Sg) (X : TS) : Prop := (∀ k, k < 8 → σ 49 k = X.1 k) ∧ σ 40 13 = X.2.1 ∧ σ 40 14 = X.2.2.1 ∧ σ 40 15 = X.2.2.2.1 ∧ σ 40 17 = X.2.2.2.2.1 ∧ σ 40 16 = X.2.2.2.2.2
/-- cells but 10 and 14, and what of 10 is no step's, are as they were -/
def kC (σ σ' : px_Sg) : Prop := (∀ k, k ≠ 10 → k ≠ 14 → σ' k = σ k) ∧ σ' 10 10 = σ 10 10 ∧ σ' 10 11 = σ 10 11
def kM (σ σ' : px_Sg) : Prop := (∀ k, k ≠ 40 → k ≠ 49 → σ' k = σ k) ∧ ∀ j, j < 13 ∨ 17 < j → σ' 40 j = σ 40 j
theorem kC.rf (σ : px_Sg) : kC σ σ := ⟨fun _ _ _ => rfl, rfl, rfl⟩
theorem kC.tr {a b c : px_Sg} (x : kC a b) (y : kC b c) : kC a c := ⟨fun k h1 h2 => (y.1 k h1 h2).trans (x.1 k h1 h2), y.2.1.trans x.2.1, y.2.2.trans x.2.2⟩
theorem kM.rf (σ : px_Sg) : kM σ σ := ⟨fun _ _ _ => rfl, fun _ _ => rfl⟩
theorem kM.tr {a b c : px_Sg} (x : kM a b) (y : kM b c) : kM a c := ⟨fun k h1 h2 => (y.1 k h1 h2).trans (x.1 k h1 h2), fun j h => (y.2 j h).trans (x.2 j h)⟩
theorem take1_C {σ : px_Sg} {X : TS} {k : Nat} (h : rC σ X) : rC (s10_take1 σ k) (if rsn (σ 11) (σ 12) (σ 13) (σ 15) 1 k X = 0 then stp (σ 11) (σ 12) (σ 13) (σ 15) 1 k X else X) ∧ kC σ (s10_take1 σ k) := by
  obtain ⟨h1, h2, h3, h4, h5, h6⟩ := h
  unfold s10_take1
  simp only [rsn, h1, h3]
  split
  · exact ⟨⟨by simp [s10_paint, px_up, stp, h1], by simp [s10_paint, px_up, upd, stp, h2], by simp [s10_paint, px_up, upd, stp, h3], by simp [s10_paint, px_up, upd, stp, h4], by simp [s10_paint, px_up, upd, stp, h5], by simp [s10_paint, px_up, upd, stp, h6]⟩, fun k a b => by simp [s10_paint, px_up, a, b], by simp [s10_paint, px_up, upd], by simp [s10_paint, px_up, upd]⟩
  · exact ⟨⟨h1, h2, h3, h4, h5, h6⟩, kC.rf σ⟩
theorem take2_C {σ : px_Sg} {X : TS} {k : Nat} (h : rC σ X) : rC (s10_take2 σ k) (if rsn (σ 11) (σ 12) (σ 13) (σ 15) 2 k X = 0 then stp (σ 11) (σ 12) (σ 13) (σ 15) 2 k X else X) ∧ kC σ (s10_take2 σ k) := by
  obtain ⟨h1, h2, h3, h4, h5, h6⟩ := h
  unfold s10_take2
  simp only [rsn, h1]
  split
  · exact ⟨⟨by simp [s10_repeal, px_up, stp, ovr, h1], by simp [s10_repeal, px_up, upd, stp, ovr, h1, h2, h3], by simp [s10_repeal, px_up, upd, stp, ovr, h3], by simp [s10_repeal, px_up, upd, stp, ovr, h4], by simp [s10_repeal, px_up, upd, stp, ovr, h5], by simp [s10_repeal, px_up, upd, stp, ovr, h1, h2, h3, h6]⟩, fun k a b => by simp [s10_repeal, px_up, a, b], by simp [s10_repeal, px_up, upd], by simp [s10_repeal, px_up, upd]⟩
  · exact ⟨⟨h1, h2, h3, h4, h5, h6⟩, kC.rf σ⟩
theorem take3_C {σ : px_Sg} {X : TS} {k : Nat} (h : rC σ X) : rC (s10_take3 σ k) (stp (σ 11) (σ 12) (σ 13) (σ 15) 3 k X) ∧ kC σ (s10_take3 σ k) := by
  obtain ⟨h1, h2, h3, h4, h5, h6⟩ := h
  unfold s10_take3
  simp only [if_true]
  exact ⟨⟨by simp [px_up, stp, h1], by simp [px_up, upd, stp, h2], by simp [px_up, upd, stp, h3], by simp [px_up, upd, stp, h4], by simp [px_up, upd, stp, h5], by simp [px_up, upd, stp, h6]⟩, fun k a b => by simp [px_up, a], by simp [px_up, upd], by simp [px_up, upd]⟩
theorem take4_C {σ : px_Sg} {X : TS} {k : Nat} (h : rC σ X) : rC (s10_take4 σ k) (if rsn (σ 11) (σ 12) (σ 13) (σ 15) 4 k X = 0 then stp (σ 11) (σ 12) (σ 13) (σ 15) 4 k X else X) ∧ kC σ (s10_take4 σ k) := by
  obtain ⟨h1, h2, h3, h4, h5, h6⟩ := h
  unfold s10_take4
  simp only [rsn, h1, h2, h3]
  split
  · exact ⟨⟨by simp [px_up, stp, h1], by simp [px_up, upd, stp, h2], by simp [px_up, upd, stp, h3], by simp [px_up, upd, stp, h4], by simp [px_up, upd, stp, h5], by simp [px_up, upd, stp, h6]⟩, fun k a b => by simp [px_up, a], by simp [px_up, upd], by simp [px_up, upd]⟩
  · exact ⟨⟨h1, h2, h3, h4, h5, h6⟩, kC.rf σ⟩
