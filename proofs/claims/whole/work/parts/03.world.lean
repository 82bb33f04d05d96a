/-! THE PURE MACHINE'S WORDS OVER THE MACHINE: values, locals, cells -/
def px_v (B0 b : Nat) : Value → Value
  | .ref k => .ref (B0 + k)
  | .retAddr _ => .ref b
  | v => v
theorem px_v_cat (B0 b : Nat) (v : Value) : (px_v B0 b v).category = v.category := by cases v <;> rfl
def px_al (B0 b : Nat) (loc : List (Option Value)) : List (Nat × Value) := (List.range loc.length).filterMap fun a => (px_get loc a).map fun v => (a, px_v B0 b v)
theorem px_get_lt {loc : List (Option Value)} {a : Nat} {v : Value} (h : px_get loc a = some v) : a < loc.length := by
  unfold px_get at h
  rcases Nat.lt_or_ge a loc.length with q | q
  · exact q
  · rw [List.getElem?_eq_none q] at h; cases h
theorem px_al_mem {B0 b : Nat} {loc : List (Option Value)} {a : Nat} {v : Value} (h : px_get loc a = some v) : (a, px_v B0 b v) ∈ px_al B0 b loc :=
  List.mem_filterMap.mpr ⟨a, List.mem_range.mpr (px_get_lt h), by rw [h]; rfl⟩
/-- the frame's locals hold the pure ones -/
def px_L (B0 b : Nat) (loc : List (Option Value)) (ls : Array Slot) (nL : Nat) : Prop := loc.length = nL ∧ ls.size = nL ∧ lv_wf ls ∧ ∀ (a : Nat) (v : Value), px_get loc a = some v → ls[a]? = some (.val (px_v B0 b v))
theorem px_L.has {B0 b nL : Nat} {loc : List (Option Value)} {ls : Array Slot} (h : px_L B0 b loc ls nL) : lv_has ls nL (px_al B0 b loc) := by
  refine ⟨h.2.1, h.2.2.1, fun q hq => ?_⟩
  obtain ⟨a, -, ha⟩ := List.mem_filterMap.mp hq
  cases hg : px_get loc a with
  | none => rw [hg] at ha; cases ha
  | some v =>
    rw [hg] at ha
    cases ha
    exact h.2.2.2 a v hg
theorem px_get_set {loc : List (Option Value)} {a j : Nat} {x : Option Value} : px_get (loc.set a x) j = if j = a then (if a < loc.length then x else none) else px_get loc j := by
  unfold px_get
  rw [List.getElem?_set]
  by_cases h : a = j
  · subst h
    by_cases h2 : a < loc.length <;> simp [h2]
  · simp [h, Ne.symm h]
theorem px_clr_get {loc : List (Option Value)} {a j : Nat} {w : Value} (h : px_get (px_clr loc a) j = some w) : px_get loc j = some w ∧ ¬ (j + 1 = a ∧ w.category = 2) := by
  unfold px_clr at h
  cases a with
  | zero => exact ⟨h, fun q => by omega⟩
  | succ k =>
    simp only at h
    split at h
    · rename_i x e
      rw [px_get_set] at h
      by_cases hj : j = k
      · subst hj; simp at h
      · simp only [hj, if_false] at h; exact ⟨h, fun q => hj (by omega)⟩
    · rename_i x e
      rw [px_get_set] at h
      by_cases hj : j = k
      · subst hj; simp at h
      · simp only [hj, if_false] at h; exact ⟨h, fun q => hj (by omega)⟩
    · rename_i n1 n2
      refine ⟨h, fun q => ?_⟩
      have hj : j = k := by omega
      subst hj
      cases w with
      | long x => exact n1 x h
      | double x => exact n2 x h
      | _ => exact absurd q.2 (by simp [Value.category])
theorem px_clr_len (loc : List (Option Value)) (a : Nat) : (px_clr loc a).length = loc.length := by
  unfold px_clr
  cases a with
  | zero => rfl
  | succ k => simp only; split <;> simp
theorem px_L1 {B0 b nL a : Nat} {loc loc' : List (Option Value)} {ls ls' : Array Slot} {v : Value} (h : px_L B0 b loc ls nL) (hp : px_put1 loc a v = some loc')
    (h' : lv_has ls' nL ((a, px_v B0 b v) :: (px_al B0 b loc).filter (fun q => !(q.1 == a) && !(q.1 + 1 == a && q.2.category == 2)))) : px_L B0 b loc' ls' nL := by
  unfold px_put1 at hp
  cases hl : Nat.blt a loc.length with
  | false => rw [hl] at hp; cases hp
  | true =>
    rw [hl] at hp
    cases hp
    refine ⟨by rw [List.length_set, px_clr_len]; exact h.1, h'.1, h'.2.1, fun j w hj => ?_⟩
    rw [px_get_set] at hj
    by_cases e : j = a
    · subst e
      have hlt : j < (px_clr loc j).length := by rw [px_clr_len]; exact Nat.le_of_ble_eq_true hl
      simp only [if_true, hlt] at hj
      cases hj
      exact h'.2.2 _ List.mem_cons_self
    · simp only [e, if_false] at hj
      obtain ⟨h1, h2⟩ := px_clr_get hj
      refine h'.2.2 (j, px_v B0 b w) (List.mem_cons_of_mem _ (List.mem_filter.mpr ⟨px_al_mem h1, ?_⟩))
      simp only [Bool.and_eq_true, Bool.not_eq_true', beq_eq_false_iff_ne, ne_eq, e, not_false_eq_true, true_and, Bool.and_eq_false_iff, px_v_cat]
      by_cases e2 : j + 1 = a
      · exact Or.inr fun q => h2 ⟨e2, q⟩
      · exact Or.inl e2
theorem px_put1_lt {loc loc' : List (Option Value)} {a : Nat} {v : Value} (hp : px_put1 loc a v = some loc') : a < loc.length := by
  unfold px_put1 at hp
  cases hl : Nat.blt a loc.length with
  | false => rw [hl] at hp; cases hp
  | true => exact Nat.le_of_ble_eq_true hl
theorem px_put2_lt {loc loc' : List (Option Value)} {a : Nat} {v : Value} (hp : px_put2 loc a v = some loc') : a + 1 < loc.length := by
  unfold px_put2 at hp
  cases hl : Nat.blt (a + 1) loc.length with
  | false => rw [hl] at hp; cases hp
  | true => exact Nat.le_of_ble_eq_true hl
theorem px_L2 {B0 b nL a : Nat} {loc loc' : List (Option Value)} {ls ls' : Array Slot} {v : Value} (h : px_L B0 b loc ls nL) (hp : px_put2 loc a v = some loc')
    (h' : lv_has ls' nL ((a, px_v B0 b v) :: (px_al B0 b loc).filter (fun q => !(q.1 == a) && (!(q.1 == a + 1) && !(q.1 + 1 == a && q.2.category == 2))))) : px_L B0 b loc' ls' nL := by
  have hlt := px_put2_lt hp
  unfold px_put2 at hp
  cases hl : Nat.blt (a + 1) loc.length with
  | false => rw [hl] at hp; cases hp
  | true =>
    rw [hl] at hp
    cases hp
    refine ⟨by rw [List.length_set, List.length_set, px_clr_len]; exact h.1, h'.1, h'.2.1, fun j w hj => ?_⟩
    rw [px_get_set] at hj
    by_cases e : j = a
    · subst e
      have hlt : j < ((px_clr loc j).set (j + 1) none).length := by rw [List.length_set, px_clr_len]; omega
      simp only [if_true, hlt] at hj
      cases hj
      exact h'.2.2 _ List.mem_cons_self
    · simp only [e, if_false] at hj
      rw [px_get_set] at hj
      by_cases e1 : j = a + 1
      · subst e1; simp at hj
      · simp only [e1, if_false] at hj
        obtain ⟨h1, h2⟩ := px_clr_get hj
        refine h'.2.2 (j, px_v B0 b w) (List.mem_cons_of_mem _ (List.mem_filter.mpr ⟨px_al_mem h1, ?_⟩))
        simp only [Bool.and_eq_true, Bool.not_eq_true', beq_eq_false_iff_ne, ne_eq, e, e1, not_false_eq_true, true_and, Bool.and_eq_false_iff, px_v_cat]
        by_cases e2 : j + 1 = a
        · exact Or.inr fun q => h2 ⟨e2, q⟩
        · exact Or.inl e2
/-! cells -/
def px_ty (c : Nat) : Nat → FieldType := match c with
  | 0 => tyX0
  | 1 => tyX1
  | 2 => tyX2
  | _ => tyX3
/-- is it a field that holds a reference? -/
def px_fz (c j : Nat) : Bool := match px_ty c j with
  | .int => false
  | .boolean => false
  | _ => true
def px_fv (B0 : Nat) (rf : List (Option Nat)) (g : Nat → Int32) (c j : Nat) : Value := bif px_fz c j then (match rf[j]? with
  | some (some q) => .ref (B0 + q)
  | _ => .null) else .int (g j)
def px_e (B0 cI cZ : Nat) (x : Nat × Nat × List (Option Nat)) (g : Nat → Int32) : va_E := match x with
  | (4, n, _) => .inl (cI, n, .inl g)
  | (5, n, _) => .inl (cZ, n, .inl g)
  | (c, _, rf) => .inr (c, (List.range (px_fN c)).map (px_fv B0 rf g c))
def px_w (B0 cI cZ : Nat) (h : px_H) : va_W := (List.range h.1.length).map fun k => (B0 + k, px_e B0 cI cZ (h.1.getD k (0, 0, [])) (h.2 k))
theorem px_w_len (B0 cI cZ : Nat) (h : px_H) : (px_w B0 cI cZ h).length = h.1.length := by simp [px_w]
theorem px_w_at {B0 cI cZ k : Nat} {h : px_H} {x : Nat × Nat × List (Option Nat)} (hx : h.1[k]? = some x) : (px_w B0 cI cZ h)[k]? = some (B0 + k, px_e B0 cI cZ x (h.2 k)) := by
  obtain ⟨hk, e⟩ := List.getElem?_eq_some_iff.mp hx
  simp [px_w, hk, e]
theorem px_w_inv {B0 cI cZ k : Nat} {h : px_H} {q : Nat × va_E} (hq : (px_w B0 cI cZ h)[k]? = some q) : k < h.1.length ∧ q.1 = B0 + k := by
  have hk : k < (px_w B0 cI cZ h).length := (List.getElem?_eq_some_iff.mp hq).1
  rw [px_w_len] at hk
  obtain ⟨x, hx⟩ : ∃ x, h.1[k]? = some x := ⟨_, List.getElem?_eq_getElem hk⟩
  rw [px_w_at hx] at hq
  cases hq
  exact ⟨hk, rfl⟩
theorem px_w_D (B0 cI cZ : Nat) (h : px_H) : va_D (fun q => B0 ≤ q) (px_w B0 cI cZ h) := by
  refine ⟨fun i j p q hp hq e => ?_, fun k q hq => ?_⟩
  · have h1 := (px_w_inv hp).2
    have h2 := (px_w_inv hq).2
    omega
  · have h1 := (px_w_inv hq).2
    show B0 ≤ q.1
    omega
theorem px_w_set {B0 cI cZ k : Nat} {h h' : px_H} {e : va_E} (hl : h'.1.length = h.1.length) (ho : ∀ j, j ≠ k → h'.1[j]? = h.1[j]? ∧ h'.2 j = h.2 j)
    (hk : ∀ x, h'.1[k]? = some x → e = px_e B0 cI cZ x (h'.2 k)) : (px_w B0 cI cZ h).set k (B0 + k, e) = px_w B0 cI cZ h' := by
  apply List.ext_getElem?
  intro j
  rw [List.getElem?_set]
  by_cases hj : k = j
  · subst hj
    rw [px_w_len]
    by_cases hlt : k < h.1.length
    · obtain ⟨x, hx⟩ : ∃ x, h'.1[k]? = some x := ⟨_, List.getElem?_eq_getElem (by omega)⟩
      rw [px_w_at hx]
      simp [hlt, hk x hx]
    · have : (px_w B0 cI cZ h')[k]? = none := List.getElem?_eq_none (by rw [px_w_len]; omega)
      simp [hlt, this]
  · simp only [hj, if_false]
    obtain ⟨o1, o2⟩ := ho j (Ne.symm hj)
    by_cases hlt : j < h.1.length
    · obtain ⟨x, hx⟩ : ∃ x, h.1[j]? = some x := ⟨_, List.getElem?_eq_getElem hlt⟩
      rw [px_w_at hx, px_w_at (o1.trans hx), o2]
    · rw [List.getElem?_eq_none (by rw [px_w_len]; omega), List.getElem?_eq_none (by rw [px_w_len]; omega)]
theorem px_w_push {B0 cI cZ : Nat} {h h' : px_H} {x : Nat × Nat × List (Option Nat)} {e : va_E} (h1 : h'.1 = h.1 ++ [x]) (ho : ∀ j, j < h.1.length → h'.2 j = h.2 j)
    (he : e = px_e B0 cI cZ x (h'.2 h.1.length)) : px_w B0 cI cZ h ++ [(B0 + h.1.length, e)] = px_w B0 cI cZ h' := by
  apply List.ext_getElem?
  intro j
  rcases Nat.lt_trichotomy j h.1.length with q | q | q
  · rw [List.getElem?_append_left (by rw [px_w_len]; exact q)]
    obtain ⟨y, hy⟩ : ∃ y, h.1[j]? = some y := ⟨_, List.getElem?_eq_getElem q⟩
    have hy' : h'.1[j]? = some y := by rw [h1, List.getElem?_append_left q]; exact hy
    rw [px_w_at hy, px_w_at hy', ho j q]
  · subst q
    have hy' : h'.1[h.1.length]? = some x := by rw [h1]; simp
    rw [px_w_at hy', List.getElem?_append_right (by rw [px_w_len]; exact Nat.le_refl _), px_w_len, he]
    simp
  · rw [List.getElem?_eq_none (by rw [List.length_append, px_w_len]; simp; omega), List.getElem?_eq_none (by rw [px_w_len, h1, List.length_append]; simp; omega)]
/-- an object's cell -/
theorem px_e_obj {B0 cI cZ c n : Nat} {rf : List (Option Nat)} {g : Nat → Int32} (hc : c < 4) : px_e B0 cI cZ (c, n, rf) g = .inr (c, (List.range (px_fN c)).map (px_fv B0 rf g c)) := by
  match c, hc with
  | 0, _ => rfl
  | 1, _ => rfl
  | 2, _ => rfl
  | 3, _ => rfl
