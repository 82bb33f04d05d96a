/-! THE PURE MACHINE: the bytecode of the claim's methods, run over a world of numbered cells. A cell is (kind, length, its references): kind 0 to 3 an object of that row of vwCl, 4 a row of ints, 5 a row of booleans; its numbers stand in a function of cell and place. A reference is the number of its cell; retAddr stands for the law's script. -/
abbrev px_S : Type := List (Nat × Nat × List (Option Nat))
abbrev px_H : Type := px_S × (Nat → Nat → Int32)
abbrev px_F : Type := Nat × List (Option Value) × List Value
/-- an instruction, its length, what it pushes, two numbers (a place, a target, a field, a callee) -/
abbrev px_I : Type := Instr × Nat × Value × Nat × Nat
/-- rows by pc; own class; locals; kind of answer (0 none, 1 int, 2 boolean, 3 long); frames and words below; name; code; is it a constructor; may it read the script -/
abbrev px_M : Type := List (Nat × px_I) × Nat × Nat × Nat × Nat × Nat × MethodName × ByteArray × Bool × Bool
def px_is (M : px_M) : List (Nat × px_I) := M.1
def px_oc (M : px_M) : Nat := M.2.1
def px_ml (M : px_M) : Nat := M.2.2.1
def px_rt (M : px_M) : Nat := M.2.2.2.1
def px_fr (M : px_M) : Nat := M.2.2.2.2.1
def px_lc (M : px_M) : Nat := M.2.2.2.2.2.1
def px_y (M : px_M) : MethodName := M.2.2.2.2.2.2.1
def px_cc (M : px_M) : ByteArray := M.2.2.2.2.2.2.2.1
def px_in (M : px_M) : Bool := M.2.2.2.2.2.2.2.2.1
def px_sc (M : px_M) : Bool := M.2.2.2.2.2.2.2.2.2
def px_ret (M : px_M) : Option FieldType := match px_rt M with
  | 0 => none
  | 1 => some .int
  | 2 => some .boolean
  | _ => some .long
def px_at : List (Nat × px_I) → Nat → Option px_I
  | [], _ => none
  | (q, i) :: r, pc => bif Nat.beq q pc then some i else px_at r pc
def px_get (loc : List (Option Value)) (a : Nat) : Option Value := match loc[a]? with
  | some x => x
  | none => none
/-- a value of two words one place below goes -/
def px_clr (loc : List (Option Value)) (a : Nat) : List (Option Value) := match a with
  | 0 => loc
  | j + 1 => match px_get loc j with
    | some (.long _) => loc.set j none
    | some (.double _) => loc.set j none
    | _ => loc
def px_put1 (loc : List (Option Value)) (a : Nat) (v : Value) : Option (List (Option Value)) := bif Nat.blt a loc.length then some ((px_clr loc a).set a (some v)) else none
def px_put2 (loc : List (Option Value)) (a : Nat) (v : Value) : Option (List (Option Value)) := bif Nat.blt (a + 1) loc.length then some (((px_clr loc a).set (a + 1) none).set a (some v)) else none
def px_exp : List Value → List (Option Value)
  | [] => []
  | .long x :: r => some (.long x) :: none :: px_exp r
  | .double x :: r => some (.double x) :: none :: px_exp r
  | v :: r => some v :: px_exp r
def px_ent (as : List Value) (n : Nat) : List (Option Value) := px_exp as ++ List.replicate (n - (px_exp as).length) none
def px_cs : List Value → Nat
  | [] => 0
  | v :: r => v.category + px_cs r
def px_up (σ : Nat → Nat → Int32) (k : Nat) (f : Nat → Int32) : Nat → Nat → Int32 := fun j => if j = k then f else σ j
def px_fN (c : Nat) : Nat := match c with
  | 0 => 2
  | 1 => 15
  | 2 => 10
  | _ => 26
def px_sw (pc : Nat) (dflt lo hi : Int) (offs : Array Int) (x : Int32) : Option Nat :=
  if x.toInt < lo ∨ hi < x.toInt then (if 0 ≤ (pc : Int) + dflt then some ((pc : Int) + dflt).toNat else none)
  else match offs[(x.toInt - lo).toNat]? with
    | none => none
    | some o => if 0 ≤ (pc : Int) + o then some ((pc : Int) + o).toNat else none
def px_bin (f : Int32 → Int32 → Int32) (pc : Nat) (loc : List (Option Value)) (st : List Value) (h : px_H) : Option (px_F × px_H) := match st with
  | .int y :: .int x :: r => some ((pc + 1, loc, .int (f x y) :: r), h)
  | _ => none
def px_binL (f : Int64 → Int64 → Int64) (pc : Nat) (loc : List (Option Value)) (st : List Value) (h : px_H) : Option (px_F × px_H) := match st with
  | .long y :: .long x :: r => some ((pc + 1, loc, .long (f x y) :: r), h)
  | _ => none
/-- a plain instruction -/
def px_st (sc : Bool) (L : Nat) (xs : Nat → Int32) (i : px_I) (pc : Nat) (loc : List (Option Value)) (st : List Value) (h : px_H) : Option (px_F × px_H) :=
  match i.1 with
  | .iconst _ => some ((pc + 1, loc, i.2.2.1 :: st), h)
  | .bipush _ => some ((pc + 2, loc, i.2.2.1 :: st), h)
  | .sipush _ => some ((pc + 3, loc, i.2.2.1 :: st), h)
  | .lconst _ => some ((pc + 1, loc, i.2.2.1 :: st), h)
  | .ldc _ => some ((pc + 2, loc, i.2.2.1 :: st), h)
  | .ldc_w _ => some ((pc + 3, loc, i.2.2.1 :: st), h)
  | .ldc2_w _ => some ((pc + 3, loc, i.2.2.1 :: st), h)
  | .iload _ => match px_get loc i.2.2.2.1 with
    | some (.int x) => some ((pc + 2, loc, .int x :: st), h)
    | _ => none
  | .iload_n _ => match px_get loc i.2.2.2.1 with
    | some (.int x) => some ((pc + 1, loc, .int x :: st), h)
    | _ => none
  | .lload _ => match px_get loc i.2.2.2.1 with
    | some (.long x) => some ((pc + 2, loc, .long x :: st), h)
    | _ => none
  | .lload_n _ => match px_get loc i.2.2.2.1 with
    | some (.long x) => some ((pc + 1, loc, .long x :: st), h)
    | _ => none
  | .aload_n _ => match px_get loc i.2.2.2.1 with
    | some (.ref x) => some ((pc + 1, loc, .ref x :: st), h)
    | some (.retAddr x) => some ((pc + 1, loc, .retAddr x :: st), h)
    | _ => none
  | .istore _ => match st with
    | .int x :: r => (px_put1 loc i.2.2.2.1 (.int x)).map fun loc => ((pc + 2, loc, r), h)
    | _ => none
  | .istore_n _ => match st with
    | .int x :: r => (px_put1 loc i.2.2.2.1 (.int x)).map fun loc => ((pc + 1, loc, r), h)
    | _ => none
  | .lstore _ => match st with
    | .long x :: r => (px_put2 loc i.2.2.2.1 (.long x)).map fun loc => ((pc + 2, loc, r), h)
    | _ => none
  | .lstore_n _ => match st with
    | .long x :: r => (px_put2 loc i.2.2.2.1 (.long x)).map fun loc => ((pc + 1, loc, r), h)
    | _ => none
  | .astore_n _ => match st with
    | .ref x :: r => (px_put1 loc i.2.2.2.1 (.ref x)).map fun loc => ((pc + 1, loc, r), h)
    | _ => none
  | .iinc _ _ => match px_get loc i.2.2.2.1, i.2.2.1 with
    | some (.int x), .int n => (px_put1 loc i.2.2.2.1 (.int (x + n))).map fun loc => ((pc + 3, loc, st), h)
    | _, _ => none
  | .iadd => px_bin (fun x y => x + y) pc loc st h
  | .isub => px_bin (fun x y => x - y) pc loc st h
  | .imul => px_bin (fun x y => x * y) pc loc st h
  | .iand => px_bin (fun x y => x &&& y) pc loc st h
  | .ior => px_bin (fun x y => x ||| y) pc loc st h
  | .ixor => px_bin (fun x y => x ^^^ y) pc loc st h
  | .ishl => px_bin (fun x y => x <<< (y &&& 31)) pc loc st h
  | .ishr => px_bin (fun x y => x >>> (y &&& 31)) pc loc st h
  | .iushr => px_bin (fun x y => (x.toUInt32 >>> (y.toUInt32 &&& Int32.toUInt32 31)).toInt32) pc loc st h
  | .idiv => match st with
    | .int y :: .int x :: r => if y = 0 then none else some ((pc + 1, loc, .int (x / y) :: r), h)
    | _ => none
  | .irem => match st with
    | .int y :: .int x :: r => if y = 0 then none else some ((pc + 1, loc, .int (x - x / y * y) :: r), h)
    | _ => none
  | .ladd => px_binL (fun x y => x + y) pc loc st h
  | .lmul => px_binL (fun x y => x * y) pc loc st h
  | .ldiv => match st with
    | .long y :: .long x :: r => if y = 0 then none else some ((pc + 1, loc, .long (x / y) :: r), h)
    | _ => none
  | .lrem => match st with
    | .long y :: .long x :: r => if y = 0 then none else some ((pc + 1, loc, .long (x - x / y * y) :: r), h)
    | _ => none
  | .lcmp => match st with
    | .long y :: .long x :: r => some ((pc + 1, loc, .int (lg_cmp x y) :: r), h)
    | _ => none
  | .i2l => match st with
    | .int x :: r => some ((pc + 1, loc, .long x.toInt64 :: r), h)
    | _ => none
  | .dup => match st with
    | .int x :: r => some ((pc + 1, loc, .int x :: .int x :: r), h)
    | .ref x :: r => some ((pc + 1, loc, .ref x :: .ref x :: r), h)
    | _ => none
  | .dup2 => match st with
    | .int x :: .ref y :: r => some ((pc + 1, loc, .int x :: .ref y :: .int x :: .ref y :: r), h)
    | _ => none
  | .pop => match st with
    | .int _ :: r => some ((pc + 1, loc, r), h)
    | _ => none
  | .goto _ => some ((i.2.2.2.1, loc, st), h)
  | .ifCond .eq _ => match st with
    | .int x :: r => if x = 0 then some ((i.2.2.2.1, loc, r), h) else some ((pc + 3, loc, r), h)
    | _ => none
  | .ifCond .ne _ => match st with
    | .int x :: r => if x = 0 then some ((pc + 3, loc, r), h) else some ((i.2.2.2.1, loc, r), h)
    | _ => none
  | .ifCond .lt _ => match st with
    | .int x :: r => if x < 0 then some ((i.2.2.2.1, loc, r), h) else some ((pc + 3, loc, r), h)
    | _ => none
  | .ifCond .ge _ => match st with
    | .int x :: r => if 0 ≤ x then some ((i.2.2.2.1, loc, r), h) else some ((pc + 3, loc, r), h)
    | _ => none
  | .ifCond .gt _ => match st with
    | .int x :: r => if 0 < x then some ((i.2.2.2.1, loc, r), h) else some ((pc + 3, loc, r), h)
    | _ => none
  | .ifCond .le _ => match st with
    | .int x :: r => if x ≤ 0 then some ((i.2.2.2.1, loc, r), h) else some ((pc + 3, loc, r), h)
    | _ => none
  | .if_icmp .eq _ => match st with
    | .int y :: .int x :: r => if x = y then some ((i.2.2.2.1, loc, r), h) else some ((pc + 3, loc, r), h)
    | _ => none
  | .if_icmp .ne _ => match st with
    | .int y :: .int x :: r => if x = y then some ((pc + 3, loc, r), h) else some ((i.2.2.2.1, loc, r), h)
    | _ => none
  | .if_icmp .lt _ => match st with
    | .int y :: .int x :: r => if x < y then some ((i.2.2.2.1, loc, r), h) else some ((pc + 3, loc, r), h)
    | _ => none
  | .if_icmp .ge _ => match st with
    | .int y :: .int x :: r => if y ≤ x then some ((i.2.2.2.1, loc, r), h) else some ((pc + 3, loc, r), h)
    | _ => none
  | .if_icmp .gt _ => match st with
    | .int y :: .int x :: r => if y < x then some ((i.2.2.2.1, loc, r), h) else some ((pc + 3, loc, r), h)
    | _ => none
  | .if_icmp .le _ => match st with
    | .int y :: .int x :: r => if x ≤ y then some ((i.2.2.2.1, loc, r), h) else some ((pc + 3, loc, r), h)
    | _ => none
  | .tableswitch dflt lo hi offs => match st with
    | .int x :: r => (px_sw pc dflt lo hi offs x).map fun t => ((t, loc, r), h)
    | _ => none
  | .getfield _ => match st with
    | .ref k :: r => match h.1[k]? with
      | some (c, _, rf) => bif Nat.beq c i.2.2.2.1 then (match i.2.2.1 with
        | .null => (match rf[i.2.2.2.2]? with
          | some (some q) => some ((pc + 3, loc, .ref q :: r), h)
          | _ => none)
        | _ => some ((pc + 3, loc, .int (h.2 k i.2.2.2.2) :: r), h)) else none
      | none => none
    | _ => none
  | .putfield _ => match st with
    | v :: .ref k :: r => match h.1[k]? with
      | some (c, n, rf) => bif Nat.beq c i.2.2.2.1 then (match i.2.2.1, v with
        | .null, .ref q => if i.2.2.2.2 < rf.length then some ((pc + 3, loc, r), (h.1.set k (c, n, rf.set i.2.2.2.2 (some q)), h.2)) else none
        | .int b, .int x => if b = 1 ∧ ¬ x = 0 ∧ ¬ x = 1 then none else some ((pc + 3, loc, r), (h.1, px_up h.2 k (upd (h.2 k) i.2.2.2.2 x)))
        | _, _ => none) else none
      | none => none
    | _ => none
  | .iaload => match st with
    | .int j :: .ref k :: r => match h.1[k]? with
      | some (4, n, _) => if j < 0 ∨ n ≤ j.toNatClampNeg then none else some ((pc + 1, loc, .int (h.2 k j.toNatClampNeg) :: r), h)
      | _ => none
    | .int j :: .retAddr _ :: r => bif sc then (if j < 0 ∨ L ≤ j.toNatClampNeg then none else some ((pc + 1, loc, .int (xs j.toNatClampNeg) :: r), h)) else none
    | _ => none
  | .baload => match st with
    | .int j :: .ref k :: r => match h.1[k]? with
      | some (5, n, _) => if j < 0 ∨ n ≤ j.toNatClampNeg then none else some ((pc + 1, loc, .int (h.2 k j.toNatClampNeg) :: r), h)
      | _ => none
    | _ => none
  | .iastore => match st with
    | .int x :: .int j :: .ref k :: r => match h.1[k]? with
      | some (4, n, _) => if j < 0 ∨ n ≤ j.toNatClampNeg then none else some ((pc + 1, loc, r), (h.1, px_up h.2 k (upd (h.2 k) j.toNatClampNeg x)))
      | _ => none
    | _ => none
  | .bastore => match st with
    | .int x :: .int j :: .ref k :: r => match h.1[k]? with
      | some (5, n, _) => if j < 0 ∨ n ≤ j.toNatClampNeg then none else if ¬ x = 0 ∧ ¬ x = 1 then none else some ((pc + 1, loc, r), (h.1, px_up h.2 k (upd (h.2 k) j.toNatClampNeg x)))
      | _ => none
    | _ => none
  | .arraylength => match st with
    | .retAddr _ :: r => bif sc then some ((pc + 1, loc, .int (Int32.ofNat L) :: r), h) else none
    | _ => none
  | .newarray _ => match st with
    | .int n :: r => if n < 0 ∨ 65536 < n.toNatClampNeg then none else some ((pc + 2, loc, .ref h.1.length :: r), (h.1 ++ [(i.2.2.2.1, n.toNatClampNeg, [])], px_up h.2 h.1.length (fun _ => 0)))
    | _ => none
  | .new _ => some ((pc + 3, loc, .ref h.1.length :: st), (h.1 ++ [(i.2.2.2.1, px_fN i.2.2.2.1, List.replicate (px_fN i.2.2.2.1) none)], px_up h.2 h.1.length (fun _ => 0)))
  | _ => none
/-- a whole row is copied onto one as long -/
def px_cp (st : List Value) (h : px_H) : Option (List Value × px_H) := match st with
  | .int n :: .int dp :: .ref d :: .int sp :: .ref q :: r => match h.1[d]?, h.1[q]? with
    | some (4, nd, _), some (4, nq, _) => if n = nI nd ∧ nd = nq ∧ dp = 0 ∧ sp = 0 ∧ nd < 65536 then some (r, (h.1, px_up h.2 d (h.2 q))) else none
    | _, _ => none
  | _ => none
def px_mx (st : List Value) (h : px_H) : Option (List Value × px_H) := match st with
  | .int y :: .int x :: r => some (.int (if x < y then y else x) :: r, h)
  | _ => none
def px_bl (a : Nat) (st : List Value) (h : px_H) : Option (List Value × px_H) := bif Nat.beq a 1001 then px_cp st h else px_mx st h
/-- the receiver is an object of that row of vwCl -/
def px_rcv (sh : px_S) (v : Value) (as : List Value) : Bool := match v, as with
  | .ref c, .ref k :: _ => (match sh[k]? with
    | some (q, _, _) => Nat.beq q c
    | none => false)
  | _, _ => false
def px_hd (as : List Value) : Bool := match as with
  | .ref _ :: _ => true
  | _ => false
/-- an instruction: it goes on; it answers; it calls (the callee, its arguments, what is kept) -/
def px_nx (M : px_M) (L : Nat) (xs : Nat → Int32) (f : px_F) (h : px_H) : Option ((px_F × px_H) ⊕ (Option Value ⊕ (Nat × List Value × List Value))) :=
  match px_at (px_is M) f.1 with
  | none => none
  | some i => match i.1 with
    | .ireturn => match f.2.2 with
      | [.int x] => (match px_rt M with
        | 1 => some (.inr (.inl (some (.int x))))
        | 2 => if ¬ x = 0 ∧ ¬ x = 1 then none else some (.inr (.inl (some (.int x))))
        | _ => none)
      | _ => none
    | .lreturn => match f.2.2 with
      | [.long x] => (match px_rt M with
        | 3 => some (.inr (.inl (some (.long x))))
        | _ => none)
      | _ => none
    | .return_ => match f.2.2 with
      | [] => (match px_rt M with
        | 0 => some (.inr (.inl none))
        | _ => none)
      | _ => none
    | .invokevirtual _ => bif Nat.ble i.2.2.2.2 f.2.2.length && Nat.ble (px_cs (f.2.2.drop i.2.2.2.2)) 8 && px_rcv h.1 i.2.2.1 (f.2.2.take i.2.2.2.2).reverse then some (.inr (.inr (i.2.2.2.1, (f.2.2.take i.2.2.2.2).reverse, f.2.2.drop i.2.2.2.2))) else none
    | .invokestatic _ => bif Nat.ble 1001 i.2.2.2.1 then (bif Nat.ble (px_cs f.2.2) 16 then (px_bl i.2.2.2.1 f.2.2 h).map fun q => .inl ((f.1 + 3, f.2.1, q.1), q.2) else none)
      else bif Nat.ble i.2.2.2.2 f.2.2.length && Nat.ble (px_cs (f.2.2.drop i.2.2.2.2)) 8 then some (.inr (.inr (i.2.2.2.1, (f.2.2.take i.2.2.2.2).reverse, f.2.2.drop i.2.2.2.2))) else none
    | .invokespecial _ => bif Nat.beq i.2.2.2.1 1000 then (match f.2.2 with
        | .ref _ :: r => bif Nat.ble (px_cs r) 8 then some (.inl ((f.1 + 3, f.2.1, r), h)) else none
        | _ => none)
      else bif Nat.ble i.2.2.2.2 f.2.2.length && Nat.ble (px_cs (f.2.2.drop i.2.2.2.2)) 8 && px_hd (f.2.2.take i.2.2.2.2).reverse then some (.inr (.inr (i.2.2.2.1, (f.2.2.take i.2.2.2.2).reverse, f.2.2.drop i.2.2.2.2))) else none
    | _ => (px_st (px_sc M) L xs i f.1 f.2.1 f.2.2 h).map .inl
def px_ok (M M' : px_M) (as : List Value) : Bool := Nat.ble (px_fr M' + 1) (px_fr M) && Nat.ble (8 + (px_ml M' + 11) + px_lc M') (px_lc M) && Nat.ble (px_exp as).length (px_ml M')
def px_run (tb : Nat → Option px_M) (L : Nat) (xs : Nat → Int32) : Nat → px_M → px_F → px_H → Option (Option Value × px_H)
  | 0, _, _, _ => none
  | n + 1, M, f, h => match px_nx M L xs f h with
    | none => none
    | some (.inl (f', h')) => px_run tb L xs n M f' h'
    | some (.inr (.inl r)) => some (r, h)
    | some (.inr (.inr (j, as, st))) => match tb j with
      | none => none
      | some M' => bif px_ok M M' as then (match px_run tb L xs n M' (0, px_ent as (px_ml M'), []) h with
        | none => none
        | some (r, h') => px_run tb L xs n M (f.1 + 3, f.2.1, r.toList ++ st) h') else none
