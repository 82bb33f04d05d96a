/-! THE NUMBERS BEHIND: bits, sets, folds -/
/-! Int32 by its bits (begun as a family of kit/laws/BITS.to-paste) -/
def bt (x : Int32) (i : Nat) : Bool := x.toBitVec.getLsbD i
theorem b_ext {x y : Int32} (h : ∀ i, i < 32 → bt x i = bt y i) : x = y := Int32.toBitVec_inj.mp (BitVec.eq_of_getLsbD_eq (fun i hi => h i hi))
theorem b_or (x y : Int32) (i : Nat) : bt (x ||| y) i = (bt x i || bt y i) := by unfold bt; rw [Int32.toBitVec_or, BitVec.getLsbD_or]
theorem b_and (x y : Int32) (i : Nat) : bt (x &&& y) i = (bt x i && bt y i) := by unfold bt; rw [Int32.toBitVec_and, BitVec.getLsbD_and]
theorem b_xor (x y : Int32) (i : Nat) : bt (x ^^^ y) i = (bt x i ^^ bt y i) := by unfold bt; rw [Int32.toBitVec_xor, BitVec.getLsbD_xor]
theorem b_big {x : Int32} {i : Nat} (h : 32 ≤ i) : bt x i = false := BitVec.getLsbD_of_ge _ _ h
theorem b_m1 : ∀ i, i < 32 → bt (-1) i = true := by decide +kernel
theorem b_0 (i : Nat) : bt 0 i = false := BitVec.getLsbD_zero
theorem s_l : ∀ n, n < 32 → ((nI n &&& 31).toBitVec.smod 32).toNat = n := by decide +kernel
theorem b_sshr (n : Nat) (hn : n < 32) (x : Int32) {i : Nat} (hi : i < 32) : bt (x >>> (nI n &&& 31)) i = if n + i < 32 then bt x (n + i) else bt x 31 := by
  unfold bt
  rw [Int32.toBitVec_shiftRight]
  show (x.toBitVec.sshiftRight ((nI n &&& 31).toBitVec.smod 32).toNat).getLsbD i = _
  rw [s_l n hn, BitVec.getLsbD_sshiftRight, BitVec.msb_eq_getLsbD_last]
  simp [hi]
/-- a counter: it grows by one -/
def cI : Nat → Int32
  | 0 => 0
  | n + 1 => cI n + 1
theorem cI_n : ∀ n, cI n = nI n
  | 0 => rfl
  | n + 1 => by rw [cI, cI_n n]; exact (nI_succ n).symm
def on (k : Nat) : Int32 := 1 <<< (cI k &&& 31)
def hb (x : Int32) (k : Nat) : Bool := !decide ((x &&& on k) = 0)
theorem on_bt : ∀ k, k < 8 → ∀ i, i < 32 → bt (on k) i = decide (i = k) := by decide +kernel
theorem hb_bt {x : Int32} {k : Nat} (hk : k < 8) : hb x k = bt x k := by
  unfold hb
  cases hx : bt x k with
  | true =>
    have : ¬ (x &&& on k) = 0 := fun q => by
      have h1 := congrArg (fun z => bt z k) q
      simp only [b_and, on_bt k hk k (by omega), b_0, hx] at h1
      simp at h1
    simp [this]
  | false =>
    have : (x &&& on k) = 0 := b_ext fun i hi => by
      rw [b_and, on_bt k hk i hi, b_0]
      by_cases h : i = k
      · subst h; simp [hx]
      · simp [h]
    simp [this]
theorem hb_z {x : Int32} {k : Nat} (h : (x &&& on k) = 0) : hb x k = false := by simp [hb, h]
theorem hb_nz {x : Int32} {k : Nat} (h : ¬ (x &&& on k) = 0) : hb x k = true := by simp [hb, h]
theorem one_bt : ∀ i, i < 32 → bt 1 i = decide (i = 0) := by decide +kernel
/-- the reference's way to ask for a bit -/
theorem has_bt {x : Int32} {k : Nat} (hk : k < 8) : ((x >>> (cI k &&& 31)) &&& 1) = if hb x k then 1 else 0 := by
  rw [hb_bt hk, cI_n]
  apply b_ext
  intro i hi
  rw [b_and, b_sshr k (by omega) x hi, one_bt i hi]
  by_cases h0 : i = 0
  · subst h0
    simp only [Nat.add_zero, show k < 32 by omega, if_true, decide_true, Bool.and_true]
    cases bt x k <;> decide
  · have : ∀ b : Bool, bt (if b then 1 else 0) i = false := by
      intro b
      cases b
      · exact b_0 i
      · simp [one_bt i hi, h0]
    rw [this]
    simp [h0]
/-- a set out of a test -/
def mk (p : Nat → Bool) : Nat → Int32
  | 0 => 0
  | n + 1 => if p n then mk p n ||| on n else mk p n
/-- what a set of parts gives -/
def po (g : Nat → Int32) (s : Int32) : Nat → Int32
  | 0 => 0
  | n + 1 => if hb s n then po g s n ||| g n else po g s n
/-- is all that is under each in the set? -/
def clB (u : Nat → Int32) (s : Int32) : Nat → Bool
  | 0 => true
  | n + 1 => clB u s n && (!hb s n || decide ((u n &&& (s ^^^ -1)) = 0))
def co (h p : Nat → Int32) (s : Int32) : Nat → Int32
  | 0 => 0
  | n + 1 => if hb s n then co h p s n + (h n - p n) else co h p s n
def ab (u : Nat → Int32) (s : Int32) : Nat → Int32
  | 0 => s
  | n + 1 => if (u n &&& ab u s n) = 0 then ab u s n else ab u s n ||| on n
def dS (h p : Nat → Int32) : Int32 := mk (fun k => decide (p k = h k)) 8
def bS (p : Nat → Int32) : Int32 := mk (fun k => !decide (p k ≤ 0)) 8
def pS (g : Nat → Int32) (s : Int32) : Int32 := po g s 8
def aS (n : Nat → Int32) (w : Int32) : Int32 := mk (fun a => decide ((n a &&& (w ^^^ -1)) = 0)) 8
def gB (n g : Nat → Int32) (s : Int32) (a : Nat) : Bool := decide ((n a &&& (pS g s ^^^ -1)) = 0)
def alS (g : Nat → Int32) (w : Int32) : Int32 := mk (fun k => decide ((w &&& (g k ^^^ -1)) = 0)) 8
def cS (u : Nat → Int32) (s : Int32) : Bool := clB u s 8
def coS (h p : Nat → Int32) (s : Int32) : Int32 := co h p s 8
def abS (u : Nat → Int32) (s : Int32) : Int32 := ab u s 8
/-- nothing of a set's parts is painted -/
def unp (p : Nat → Int32) (s : Int32) : Nat → Nat → Int32
  | 0 => p
  | n + 1 => if hb s n then upd (unp p s n) n 0 else unp p s n
def bo (b : Bool) : Int32 := if b then 1 else 0
theorem bo01 (b : Bool) : bo b = 0 ∨ bo b = 1 := by cases b <;> simp [bo]
theorem bo_0 {b : Bool} : bo b = 0 ↔ b = false := by cases b <;> simp [bo]
theorem bo_n0 {b : Bool} : ¬ bo b = 0 ↔ b = true := by cases b <;> simp [bo]
theorem ge_no {i : Nat} (N : Nat) (h : i < N) (hN : N < 2147483648) : ¬ nI N ≤ cI i := by rw [cI_n]; exact nI_ge h hN
theorem ge_yes (N : Nat) (hN : N < 2147483648) : nI N ≤ cI N := by rw [cI_n]; exact nI_le (Nat.le_refl _) hN
theorem clB_le (u : Nat → Int32) (s : Int32) : ∀ (d n : Nat), clB u s n = false → clB u s (n + d) = false
  | 0, _, h => h
  | d + 1, n, h => by
    have h1 := clB_le u s d n h
    show (clB u s (n + d) && _) = false
    rw [h1]; rfl
theorem cS_no {u : Nat → Int32} {s : Int32} {i : Nat} (hi : i < 8) (h1 : ¬ (s &&& on i) = 0) (h2 : ¬ (u i &&& (s ^^^ -1)) = 0) : cS u s = false := by
  have h3 : clB u s (i + 1) = false := by
    show (clB u s i && (!hb s i || decide ((u i &&& (s ^^^ -1)) = 0))) = false
    rw [hb_nz h1, decide_eq_false h2]; simp
  have := clB_le u s (8 - (i + 1)) (i + 1) h3
  rw [show i + 1 + (8 - (i + 1)) = 8 by omega] at this
  exact this
/-- can the part be finished, these being done? -/
def cf (u : Nat → Int32) (s : Int32) (k : Nat) : Bool := !hb s k && decide ((u k &&& (s ^^^ -1)) = 0)
/-- the powers that there are -/
def pw (sits : Int32) (h p g : Nat → Int32) : Int32 := if sits = 0 then 255 else pS g (dS h p)
def wP (sits : Int32) (h p u : Nat → Int32) (k : Nat) : Int32 := if sits = 0 then 1 else if p k = h k then 2 else if (u k &&& (dS h p ^^^ -1)) = 0 then 0 else 3
def wO (p : Nat → Int32) (k : Nat) : Int32 := if p k = 0 then 4 else 0
def wM (force w : Int32) (n : Nat → Int32) (a : Nat) : Int32 := if hb force a then 5 else if (n a &&& (w ^^^ -1)) = 0 then 0 else 6
def nxs (ss : Nat → Int32) (st : Int32) : Nat → Int32
  | 0 => -6
  | n + 1 => if ss n ≤ st then nxs ss st n else if nxs ss st n = -6 then ss n else if nxs ss st n ≤ ss n then nxs ss st n else ss n
def hx (x y : Int32) : Bool := !decide ((x &&& (1 <<< (y &&& 31))) = 0)
def ftB (ss sa : Nat → Int32) (cl acts st : Int32) : Nat → Bool
  | 0 => true
  | n + 1 => ftB ss sa cl acts st n && (!decide (ss n = st) || (hx acts (sa n) == hb cl n))
theorem ftB_le (ss sa : Nat → Int32) (cl acts st : Int32) : ∀ (d n : Nat), ftB ss sa cl acts st n = false → ftB ss sa cl acts st (n + d) = false
  | 0, _, h => h
  | d + 1, n, h => by
    have h1 := ftB_le ss sa cl acts st d n h
    show (ftB ss sa cl acts st (n + d) && _) = false
    rw [h1]; rfl
theorem ftB_no {ss sa : Nat → Int32} {cl acts st : Int32} {i n : Nat} (hi : i < n) (h1 : ss i = st) (h2 : ¬ bo (hx acts (sa i)) = bo (hb cl i)) : ftB ss sa cl acts st n = false := by
  have h3 : ftB ss sa cl acts st (i + 1) = false := by
    show (ftB ss sa cl acts st i && (!decide (ss i = st) || (hx acts (sa i) == hb cl i))) = false
    have : ¬ hx acts (sa i) = hb cl i := fun q => h2 (by rw [q])
    simp [h1, this]
  have := ftB_le ss sa cl acts st (n - (i + 1)) (i + 1) h3
  rw [show i + 1 + (n - (i + 1)) = n by omega] at this
  exact this
theorem ge_noN {i n : Nat} {x : Int32} (hx : x = nI n) (h : i < n) (hN : n < 2147483648) : ¬ x ≤ cI i := by rw [hx, cI_n]; exact nI_ge h hN
theorem ge_yesN {n : Nat} {x : Int32} (hx : x = nI n) (hN : n < 2147483648) : x ≤ cI n := by rw [hx, cI_n]; exact nI_le (Nat.le_refl _) hN
theorem px_upup (σ : px_Sg) (k : Nat) (f g : Nat → Int32) : px_up (px_up σ k f) k g = px_up σ k g := by
  funext j
  unfold px_up
  by_cases h : j = k <;> simp [h]
theorem px_up_self (σ : px_Sg) (k : Nat) : px_up σ k (σ k) = σ := by
  funext j
  unfold px_up
  by_cases h : j = k
  · simp [h]
  · simp [h]
/-- what a sign is; which part or act -/
def kd (x : Int32) : Int32 := if ¬ x < 97 ∧ ¬ 105 ≤ x then 1 else if ¬ x < 65 ∧ ¬ 73 ≤ x then 4 else if x = 47 then 2 else if x = 115 then 3 else 0
def nb (x : Int32) : Int32 := if kd x = 1 then x - 97 else if kd x = 4 then x - 65 else 0
def wt (sg : Nat → Int32) : Nat → Bool
  | 0 => false
  | n + 1 => decide (kd (sg n) = 2)
def bad (x : Int32) (w : Bool) : Bool := if w then !decide (kd x = 1) else decide (kd x = 0)
/-- the first fault, from place i on, d places being left -/
def fau (sg : Nat → Int32) : Nat → Nat → Bool → Int32
  | 0, i, w => if w then cI i else -6
  | d + 1, i, w => if bad (sg i) w then cI i else fau sg d (i + 1) (decide (kd (sg i) = 2))
theorem wt_s (sg : Nat → Int32) (n : Nat) : wt sg (n + 1) = decide (kd (sg n) = 2) := rfl
theorem unp_t {p : Nat → Int32} {s : Int32} {i : Nat} (h : hb s i = true) : unp p s (i + 1) = upd (unp p s i) i 0 := by rw [unp, if_pos h]
theorem unp_f {p : Nat → Int32} {s : Int32} {i : Nat} (h : hb s i = false) : unp p s (i + 1) = unp p s i := by rw [unp, h]; rfl
theorem bt_mk (p : Nat → Bool) : ∀ (n : Nat), n ≤ 8 → ∀ j, j < 32 → bt (mk p n) j = (decide (j < n) && p j)
  | 0, _, j, hj => by rw [mk, b_0]; simp
  | n + 1, hn, j, hj => by
    have ih := bt_mk p n (by omega) j hj
    have ho := on_bt n (by omega) j hj
    rw [mk]
    by_cases hp : p n = true
    · rw [if_pos hp, b_or, ih, ho]
      by_cases e : j = n
      · subst e; simp [hp]
      · rcases Nat.lt_or_ge j n with q | q
        · simp [e, q, Nat.lt_succ_of_lt q]
        · have h1 : ¬ j < n := by omega
          have h2 : ¬ j < n + 1 := by omega
          simp [e, h1, h2]
    · rw [if_neg hp, ih]
      by_cases e : j = n
      · subst e
        have : p j = false := by simpa using hp
        simp [this]
      · rcases Nat.lt_or_ge j n with q | q
        · simp [q, Nat.lt_succ_of_lt q]
        · have h1 : ¬ j < n := by omega
          have h2 : ¬ j < n + 1 := by omega
          simp [h1, h2]
theorem hb_mk {p : Nat → Bool} {k : Nat} (hk : k < 8) : hb (mk p 8) k = p k := by
  rw [hb_bt hk, bt_mk p 8 (by omega) k (by omega)]
  simp [hk]
/-- the bit of a part in the set of those that are done -/
theorem dS_z {h p : Nat → Int32} {k : Nat} (hk : k < 8) : ((dS h p) &&& (1 <<< ((cI k) &&& 31))) = 0 ↔ ¬ p k = h k := by
  have e : hb (dS h p) k = decide (p k = h k) := hb_mk hk
  unfold hb at e
  show (dS h p &&& on k) = 0 ↔ ¬ p k = h k
  by_cases q : p k = h k
  · by_cases z : (dS h p &&& on k) = 0
    · rw [decide_eq_true z, decide_eq_true q] at e; cases e
    · exact ⟨fun y => absurd y z, fun y => absurd q y⟩
  · by_cases z : (dS h p &&& on k) = 0
    · exact ⟨fun _ => q, fun _ => z⟩
    · rw [decide_eq_false z, decide_eq_false q] at e; cases e
