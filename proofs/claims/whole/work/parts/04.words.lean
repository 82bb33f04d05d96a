/-! what a method's rows must meet -/
def px_isN : Cond → Bool
  | .fieldLinkNest .. => true
  | .methodLinkNest .. => true
  | _ => false
def px_TB : List Cond := lw_tbl.filter goodWord
def px_NW : List Cond := lw_tbl.filter px_isN
theorem px_TBi {w : Cond} (h : w ∈ lw_tbl) (g : goodWord w = true) : w ∈ px_TB := List.mem_filter.mpr ⟨h, g⟩
theorem px_NWi {w : Cond} (h : w ∈ lw_tbl) (g : px_isN w = true) : w ∈ px_NW := List.mem_filter.mpr ⟨h, g⟩
def px_cn (c : Nat) : String := match c with
  | 0 => RX0
  | 1 => RX1
  | 2 => RX2
  | 3 => RX3
  | 4 => RJ6
  | 5 => RJ9
  | _ => RL
def px_tt (c : Nat) : u_T := match c with
  | 0 => TX0
  | 1 => TX1
  | 2 => TX2
  | _ => TX3
def px_ln (i : px_I) : Nat := match i.1 with
  | .bipush _ => 2
  | .ldc _ => 2
  | .iload _ => 2
  | .lload _ => 2
  | .istore _ => 2
  | .lstore _ => 2
  | .newarray _ => 2
  | .sipush _ => 3
  | .ldc_w _ => 3
  | .ldc2_w _ => 3
  | .iinc _ _ => 3
  | .goto _ => 3
  | .ifCond _ _ => 3
  | .if_icmp _ _ => 3
  | .getfield _ => 3
  | .putfield _ => 3
  | .new _ => 3
  | .invokevirtual _ => 3
  | .invokestatic _ => 3
  | .invokespecial _ => 3
  | .tableswitch .. => i.2.1
  | _ => 1
/-- what a program decides of a row -/
def px_okB (M : px_M) (pc : Nat) (i : px_I) : Bool := match i.1 with
  | .iconst n => decide (i.2.2.1 = .int (Int32.ofInt n))
  | .bipush n => decide (i.2.2.1 = .int (Int8.ofInt n).toInt32)
  | .sipush n => decide (i.2.2.1 = .int (Int16.ofInt n).toInt32)
  | .lconst n => decide (i.2.2.1 = .long (Int64.ofNat (n : Nat)))
  | .iload k => Nat.beq i.2.2.2.1 k
  | .lload k => Nat.beq i.2.2.2.1 k
  | .istore k => Nat.beq i.2.2.2.1 k
  | .lstore k => Nat.beq i.2.2.2.1 k
  | .iload_n k => Nat.beq i.2.2.2.1 k.val
  | .lload_n k => Nat.beq i.2.2.2.1 k.val
  | .aload_n k => Nat.beq i.2.2.2.1 k.val
  | .istore_n k => Nat.beq i.2.2.2.1 k.val
  | .lstore_n k => Nat.beq i.2.2.2.1 k.val
  | .astore_n k => Nat.beq i.2.2.2.1 k.val
  | .iinc k n => Nat.beq i.2.2.2.1 k && decide (i.2.2.1 = .int (Int32.ofInt n))
  | .goto o => decide ((pc : Int) + o = (i.2.2.2.1 : Int))
  | .ifCond _ o => decide ((pc : Int) + o = (i.2.2.2.1 : Int))
  | .if_icmp _ o => decide ((pc : Int) + o = (i.2.2.2.1 : Int))
  | .putfield _ => decide (i.2.2.1 = .null → px_in M = true ∧ px_oc M = i.2.2.2.1)
  | .newarray t => decide ((t = .int ∧ i.2.2.2.1 = 4) ∨ (t = .boolean ∧ i.2.2.2.1 = 5))
  | .invokestatic _ => decide (1001 ≤ i.2.2.2.1 → 1 ≤ px_fr M ∧ 29 ≤ px_lc M)
  | .invokespecial _ => decide (i.2.2.2.1 = 1000 → 1 ≤ px_fr M ∧ 20 ≤ px_lc M)
  | _ => true
/-- what of a row asks the tables' words -/
def px_key (i : px_I) : Option (Nat × Nat × Value × Nat × Nat) := match i.1 with
  | .getfield k => some (0, k, i.2.2.1, i.2.2.2.1, i.2.2.2.2)
  | .putfield k => some (0, k, i.2.2.1, i.2.2.2.1, i.2.2.2.2)
  | .new k => some (1, k, .null, i.2.2.2.1, 0)
  | .invokevirtual k => some (2, k, i.2.2.1, i.2.2.2.1, i.2.2.2.2)
  | .invokestatic k => some (3, k, .null, i.2.2.2.1, i.2.2.2.2)
  | .invokespecial k => some (4, k, .null, i.2.2.2.1, i.2.2.2.2)
  | .ldc k => some (5, k, i.2.2.1, 0, 0)
  | .ldc_w k => some (5, k, i.2.2.1, 0, 0)
  | .ldc2_w k => some (6, k, i.2.2.1, 0, 0)
  | _ => none
def px_kF (own idx : Nat) (imm : Value) (c j : Nat) : Prop := c < 4 ∧ j < px_fN c ∧
  (Cond.fieldLink (px_cn own) idx (px_cn c) (px_tt c j).2.1 (px_tt c j).2.2.1 ∈ px_TB ∨ own ≠ c ∧ ∃ host, Cond.fieldLinkNest (px_cn own) idx (px_cn c) (px_tt c j).2.1 (px_tt c j).2.2.1 host ∈ px_NW) ∧
  ((imm = .null ∧ px_fz c j = true) ∨ (imm = .int 0 ∧ px_ty c j = .int) ∨ (imm = .int 1 ∧ px_ty c j = .boolean))
def px_kN (own idx c : Nat) : Prop := c < 4 ∧ Cond.classLink (px_cn own) idx (px_cn c) ∈ px_TB ∧ Cond.instantiable (px_cn c) (px_fN c) ∈ px_TB ∧ Cond.initialized (px_cn c) ∈ px_TB
def px_kL (own idx : Nat) (y : MethodName) : Prop := Cond.methodLink (px_cn own) idx y ∈ px_TB ∨ ∃ host, Cond.methodLinkNest (px_cn own) idx y host ∈ px_NW
def px_np (y : MethodName) (n : Nat) : Prop := (parseMethodDescriptor y.desc).map (fun d => d.parameters.length) = some n
def px_kV (tb : Nat → Option px_M) (own idx : Nat) (imm : Value) (j n : Nat) : Prop := ∃ M' : px_M, tb j = some M' ∧ imm = .ref (px_oc M') ∧ px_oc M' < 4 ∧ 1 ≤ n ∧ px_np (px_y M') (n - 1) ∧ Cond.instanceMethod (px_y M') ∈ px_TB ∧ Cond.selects (px_cn (px_oc M')) (px_y M') (px_y M') ∈ px_TB ∧ px_kL own idx (px_y M')
def px_kS (tb : Nat → Option px_M) (own idx j n : Nat) : Prop := if 1001 ≤ j then (if j = 1001 then Cond.methodLink (px_cn own) idx arraycopyName ∈ px_TB ∧ Cond.native arraycopyName ∈ px_TB ∧ Cond.static arraycopyName ∈ px_TB ∧ Cond.initialized "java/lang/System" ∈ px_TB
  else Cond.methodLink (px_cn own) idx Lib.Math.max.name ∈ px_TB ∧ Cond.static Lib.Math.max.name ∈ px_TB ∧ Cond.initialized "java/lang/Math" ∈ px_TB ∧ Cond.code Lib.Math.max.name Lib.Math.max.code 2 (some .int) ∈ px_TB)
  else ∃ M' : px_M, tb j = some M' ∧ px_np (px_y M') n ∧ Cond.static (px_y M') ∈ px_TB ∧ px_kL own idx (px_y M')
def px_kI (tb : Nat → Option px_M) (own idx j n : Nat) : Prop := if j = 1000 then Cond.methodLink (px_cn own) idx objectInit ∈ px_TB ∧ Cond.instanceMethod objectInit ∈ px_TB ∧ Cond.code objectInit ⟨#[0xb1]⟩ 1 none ∈ px_TB
  else ∃ M' : px_M, tb j = some M' ∧ px_rt M' = 0 ∧ 1 ≤ n ∧ px_np (px_y M') (n - 1) ∧ (px_y M').name = "<init>" ∧ Cond.instanceMethod (px_y M') ∈ px_TB ∧ px_kL own idx (px_y M')
def px_okK (tb : Nat → Option px_M) (own : Nat) (q : Nat × Nat × Value × Nat × Nat) : Prop := match q.1 with
  | 0 => px_kF own q.2.1 q.2.2.1 q.2.2.2.1 q.2.2.2.2
  | 1 => px_kN own q.2.1 q.2.2.2.1
  | 2 => px_kV tb own q.2.1 q.2.2.1 q.2.2.2.1 q.2.2.2.2
  | 3 => px_kS tb own q.2.1 q.2.2.2.1 q.2.2.2.2
  | 4 => px_kI tb own q.2.1 q.2.2.2.1 q.2.2.2.2
  | 5 => ∃ v : Int32, q.2.2.1 = .int v ∧ Cond.constant (px_cn own) q.2.1 v ∈ px_TB
  | _ => ∃ v : Int64, q.2.2.1 = .long v ∧ Cond.constantLong (px_cn own) q.2.1 v ∈ px_TB
def px_ok3 (tb : Nat → Option px_M) (M : px_M) : Prop := (∀ e ∈ px_is M, decode (px_cc M) e.1 = .ok (e.2.1, px_ln e.2)) ∧ (∀ e ∈ px_is M, px_okB M e.1 e.2 = true) ∧ ∀ e ∈ px_is M, ∀ q, px_key e.2 = some q → px_okK tb (px_oc M) q
def px_okM (tb : Nat → Option px_M) (M : px_M) : Prop := px_ok3 tb M ∧ (px_y M).cls = px_cn (px_oc M) ∧ plainName (px_y M).cls = true ∧ Cond.code (px_y M) (px_cc M) (px_ml M) (px_ret M) ∈ px_TB ∧ Cond.initialized (px_y M).cls ∈ px_TB ∧ ((px_y M).cls ≠ "java/lang/invoke/MethodHandle" ∧ (px_y M).cls ≠ "java/lang/invoke/VarHandle") ∧ (px_in M = true → (px_y M).name = "<init>") ∧ px_sc M = false
theorem px_at_mem {l : List (Nat × px_I)} {pc : Nat} {i : px_I} (h : px_at l pc = some i) : (pc, i) ∈ l := by
  induction l with
  | nil => cases h
  | cons a r ih =>
    obtain ⟨q, j⟩ := a
    unfold px_at at h
    cases e : Nat.beq q pc with
    | true =>
      rw [e] at h
      cases h
      rw [Nat.eq_of_beq_eq_true e]
      exact List.mem_cons_self
    | false =>
      rw [e] at h
      exact List.mem_cons_of_mem _ (ih h)
/-- the rows of vwCl -/
theorem px_cl {c : Nat} (hc : c < 4) : vwCl[c]? = some (px_cn c, px_tt c, px_fN c) := by
  match c, hc with
  | 0, _ => rfl
  | 1, _ => rfl
  | 2, _ => rfl
  | 3, _ => rfl
theorem px_clw0 : ∀ w ∈ wsX00, w ∈ px_TB := by decide +kernel
theorem px_clw1 : ∀ w ∈ wsX10, w ∈ px_TB := by decide +kernel
theorem px_clw2 : ∀ w ∈ u_ws RX2 TX2 10, w ∈ px_TB := by decide +kernel
theorem px_clw3 : ∀ w ∈ u_ws RX3 TX3 26, w ∈ px_TB := by decide +kernel
theorem px_clw {c : Nat} (hc : c < 4) : ∀ w ∈ u_ws (px_cn c) (px_tt c) (px_fN c), w ∈ px_TB := by
  match c, hc with
  | 0, _ => exact px_clw0
  | 1, _ => exact px_clw1
  | 2, _ => exact px_clw2
  | 3, _ => exact px_clw3
theorem px_clt {c : Nat} (hc : c < 4) : ∀ k, k < px_fN c → parseFieldDescriptor (px_tt c k).2.2.1 = some (px_ty c k) := by
  match c, hc with
  | 0, _ => exact tyX0_ok
  | 1, _ => exact tyX1_ok
  | 2, _ => exact tyX2_ok
  | 3, _ => exact tyX3_ok
theorem px_cln {c : Nat} (hc : c < 4) : ∀ a, a < px_fN c → ∀ b, b < px_fN c → a ≠ b → (px_tt c a).2.1 ≠ (px_tt c b).2.1 := by
  match c, hc with
  | 0, _ => exact nmX0
  | 1, _ => exact nmX1
  | 2, _ => exact nmX2
  | 3, _ => exact nmX3
theorem px_clf0 : ∀ j, j < 2 → (TX0 j).1 = RX0 ∧ (TX0 j).2.2.2 = px_fz 0 j ∧ defaultValue (tyX0 j) = (bif px_fz 0 j then .null else .int 0) := by decide +kernel
theorem px_clf1 : ∀ j, j < 15 → (TX1 j).1 = RX1 ∧ (TX1 j).2.2.2 = px_fz 1 j ∧ defaultValue (tyX1 j) = (bif px_fz 1 j then .null else .int 0) := by decide +kernel
theorem px_clf2 : ∀ j, j < 10 → (TX2 j).1 = RX2 ∧ (TX2 j).2.2.2 = px_fz 2 j ∧ defaultValue (tyX2 j) = (bif px_fz 2 j then .null else .int 0) := by decide +kernel
theorem px_clf3 : ∀ j, j < 26 → (TX3 j).1 = RX3 ∧ (TX3 j).2.2.2 = px_fz 3 j ∧ defaultValue (tyX3 j) = (bif px_fz 3 j then .null else .int 0) := by decide +kernel
theorem px_clf {c : Nat} (hc : c < 4) : ∀ j, j < px_fN c → (px_tt c j).1 = px_cn c ∧ (px_tt c j).2.2.2 = px_fz c j ∧ defaultValue (px_ty c j) = (bif px_fz c j then .null else .int 0) := by
  match c, hc with
  | 0, _ => exact px_clf0
  | 1, _ => exact px_clf1
  | 2, _ => exact px_clf2
  | 3, _ => exact px_clf3
/-- a reference fits a field that holds one -/
theorem px_clr0 : ∀ j, j < 2 → px_fz 0 j = true → (∃ C, tyX0 j = .object C) ∨ ∃ t, tyX0 j = .array t := by
  intro j hj h
  match j, hj with
  | 0, _ => exact Or.inr ⟨_, rfl⟩
  | 1, _ => exact absurd h (by decide)
theorem px_rfit {ty : FieldType} (h : (∃ C, ty = .object C) ∨ ∃ t, ty = .array t) (a : Nat) : narrow ty (.ref a) = .ref a ∧ fits ty (.ref a) = true := by
  rcases h with ⟨C, rfl⟩ | ⟨t, rfl⟩ <;> exact ⟨rfl, rfl⟩
def px_isR (ty : FieldType) : Bool := match ty with
  | .object _ => true
  | .array _ => true
  | _ => false
theorem px_isR_spec {ty : FieldType} (h : px_isR ty = true) (a : Nat) : narrow ty (.ref a) = .ref a ∧ fits ty (.ref a) = true := by
  cases ty <;> first | exact ⟨rfl, rfl⟩ | cases h
theorem px_fzR0 : ∀ j, j < 2 → px_fz 0 j = true → px_isR (tyX0 j) = true := by decide +kernel
theorem px_fzR1 : ∀ j, j < 15 → px_fz 1 j = true → px_isR (tyX1 j) = true := by decide +kernel
theorem px_fzR2 : ∀ j, j < 10 → px_fz 2 j = true → px_isR (tyX2 j) = true := by decide +kernel
theorem px_fzR3 : ∀ j, j < 26 → px_fz 3 j = true → px_isR (tyX3 j) = true := by decide +kernel
theorem px_fzR {c : Nat} (hc : c < 4) : ∀ j, j < px_fN c → px_fz c j = true → px_isR (px_ty c j) = true := by
  match c, hc with
  | 0, _ => exact px_fzR0
  | 1, _ => exact px_fzR1
  | 2, _ => exact px_fzR2
  | 3, _ => exact px_fzR3
