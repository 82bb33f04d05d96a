def iB (v lo hi : Int32) : Bool := !decide (v < lo) && !decide (hi < v)
def pcn (s : Int32) : Nat → Int32
  | 0 => 0
  | n + 1 => pcn s n + bo (hb s n)
def cpn (p q : Nat → Int32) (i : Nat) : Nat → Int32 := fun k => if k < i then p k else q k
theorem cpn_0 (p q : Nat → Int32) : cpn p q 0 = q := by funext k; simp [cpn]
theorem cpn_s (p q : Nat → Int32) (i : Nat) : upd (cpn p q i) i (p i) = cpn p q (i + 1) := by
  funext k
  unfold upd cpn
  by_cases e : k = i
  · subst e; simp
  · rcases Nat.lt_or_ge k i with h | h
    · simp [e, h, Nat.lt_succ_of_lt h]
    · have h1 : ¬ k < i := by omega
      have h2 : ¬ k < i + 1 := by omega
      simp [e, h1, h2]
theorem upd_same (f : Nat → Int32) (i : Nat) : upd f i (f i) = f := by
  funext k
  unfold upd
  by_cases e : k = i <;> simp [e]
def rpF (n : Nat → Int32) (w f0 : Int32) : Nat → Int32
  | 0 => f0
  | a + 1 => if hb (rpF n w f0 a) a then (if (n a &&& (w ^^^ -1)) = 0 then rpF n w f0 a else rpF n w f0 a &&& (on a ^^^ -1)) else rpF n w f0 a
def rpC (n : Nat → Int32) (w f0 r0 : Int32) : Nat → Int32
  | 0 => r0
  | a + 1 => if hb (rpF n w f0 a) a then (if (n a &&& (w ^^^ -1)) = 0 then rpC n w f0 r0 a else rpC n w f0 r0 a + 1) else rpC n w f0 r0 a
theorem upd_upd (f : Nat → Int32) (i : Nat) (x y : Int32) : upd (upd f i x) i y = upd f i y := by
  funext k
  unfold upd
  by_cases e : k = i <;> simp [e]
theorem upd_comm (f : Nat → Int32) {i j : Nat} (h : i ≠ j) (x y : Int32) : upd (upd f i x) j y = upd (upd f j y) i x := by
  funext k
  unfold upd
  by_cases e : k = i
  · subst e; simp [h]
  · by_cases e2 : k = j <;> simp [e, e2, Ne.symm h]
theorem upd_at (f : Nat → Int32) (i : Nat) (x : Int32) : upd f i x i = x := by simp [upd]
theorem upd_ne (f : Nat → Int32) {i j : Nat} (h : j ≠ i) (x : Int32) : upd f i x j = f j := by simp [upd, h]
