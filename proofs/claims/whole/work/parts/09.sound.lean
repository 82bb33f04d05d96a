/-! calls, answers, the whole run -/
theorem px_nw_warm {s U : State} {w : Cond} (hW : s.WarmedH U.vm) (hw : w ∈ px_NW) (h : va_Nw w s) : va_Nw w U := by
  have h1 := (List.mem_filter.mp hw).2
  cases w <;> first | (cases h1; done) | exact va_Nw.warmF hW h | exact va_Nw.warmM hW h
theorem px_nw_same {s U : State} {w : Cond} (hv : s.vm = U.vm) (hw : w ∈ px_NW) (h : va_Nw w s) : va_Nw w U := by
  have h1 := (List.mem_filter.mp hw).2
  cases w <;> first | (cases h1; done) | exact va_Nw.same rfl hv h
theorem px_good {w : Cond} (h : w ∈ px_TB) : GoodIn px_TB (w :: px_TB) := fun x hx => by
  have hx : x ∈ px_TB := by
    rcases List.mem_cons.mp hx with rfl | hx
    · exact h
    · exact hx
  exact ⟨hx, good_of_word (List.mem_filter.mp hx).2⟩
def px_Pc (D : va_G) (cI cZ B0 b : Nat) (as : List Value) (h : px_H) : Array Value → State → Prop := fun v U => v = (as.map (px_v B0 b)).toArray ∧ U.heap.size = B0 + h.1.length ∧ va_P D vwCl (px_w B0 cI cZ h) U.heap ∧ va_K D vwCl [(cI, .int), (cZ, .boolean)] U ∧ ∀ w ∈ px_NW, va_Nw w U
def px_Qc (D : va_G) (cI cZ B0 b : Nat) (r : Option Value) (h' : px_H) : Array Value → State → Outcome → State → Prop := fun _ st oc t => oc = .returned (r.map (px_v B0 b)) ∧ va_P D vwCl (px_w B0 cI cZ h') t.heap ∧ va_F (fun q => B0 ≤ q) st t
theorem px_blind (D : va_G) (cI cZ B0 b : Nat) (as : List Value) (h : px_H) : FrameBlind (px_Pc D cI cZ B0 b as h) := by
  intro a U g mk ⟨q1, q2, q3, q4, q5⟩
  exact ⟨q1, q2, q3, va_K.moved (u := U) (U := U.calling g mk a) (Vm.Alike.refl U.vm) q4, fun w hw => px_nw_same (s := U) (U := U.calling g mk a) rfl hw (q5 w hw)⟩
theorem px_exp_len (B0 b : Nat) : ∀ as : List Value, (lg_sl (as.map (px_v B0 b))).length = (px_exp as).length := by
  intro as
  induction as with
  | nil => rfl
  | cons v r ih =>
    have h1 : (lg_sl ((v :: r).map (px_v B0 b))) = (if (px_v B0 b v).category = 2 then [.val (px_v B0 b v), .second] else [.val (px_v B0 b v)]) ++ lg_sl (r.map (px_v B0 b)) := by simp [lg_sl]
    rw [h1, List.length_append, ih, px_v_cat]
    cases v <;> simp [px_exp, Value.category] <;> omega
theorem px_ent_len {as : List Value} {n : Nat} (h : (px_exp as).length ≤ n) : (px_ent as n).length = n := by
  unfold px_ent
  rw [List.length_append, List.length_replicate]
  omega
theorem px_get_rep {k a : Nat} {v : Value} (h : px_get (List.replicate k none) a = some v) : False := by
  unfold px_get at h
  by_cases hk : a < k <;> simp [hk] at h
theorem px_get_cons {x : Option Value} {r : List (Option Value)} {a : Nat} : px_get (x :: r) a = if a = 0 then x else px_get r (a - 1) := by
  cases a with
  | zero => rfl
  | succ n => rfl
theorem px_ent_args (B0 b : Nat) {k : Nat} : ∀ (as : List Value) (i a : Nat) (v : Value), px_get (px_exp as ++ List.replicate k none) a = some v → (i + a, px_v B0 b v) ∈ lv_args i (as.map (px_v B0 b)) := by
  intro as
  induction as with
  | nil => intro i a v h; exact absurd h (fun q => px_get_rep q)
  | cons w r ih =>
    intro i a v h
    have h2 : ∀ x : Value, w.category = 2 → px_get (some w :: none :: px_exp r ++ List.replicate k none) a = some v → (i + a, px_v B0 b v) ∈ lv_args i ((w :: r).map (px_v B0 b)) := by
      intro _ hc h
      rw [List.cons_append, List.cons_append, px_get_cons] at h
      show _ ∈ (i, px_v B0 b w) :: lv_args (if (px_v B0 b w).category = 2 then i + 2 else i + 1) (r.map (px_v B0 b))
      rw [px_v_cat, if_pos hc]
      by_cases h0 : a = 0
      · subst h0
        simp only [if_true] at h
        cases h
        exact List.mem_cons_self
      · simp only [h0, if_false] at h
        rw [px_get_cons] at h
        by_cases h1 : a - 1 = 0
        · simp [h1] at h
        · simp only [h1, if_false] at h
          have := ih (i + 2) (a - 1 - 1) v h
          rw [show i + 2 + (a - 1 - 1) = i + a by omega] at this
          exact List.mem_cons_of_mem _ this
    have h1 : ∀ x : Value, ¬ w.category = 2 → px_get (some w :: px_exp r ++ List.replicate k none) a = some v → (i + a, px_v B0 b v) ∈ lv_args i ((w :: r).map (px_v B0 b)) := by
      intro _ hc h
      rw [List.cons_append, px_get_cons] at h
      show _ ∈ (i, px_v B0 b w) :: lv_args (if (px_v B0 b w).category = 2 then i + 2 else i + 1) (r.map (px_v B0 b))
      rw [px_v_cat, if_neg hc]
      by_cases h0 : a = 0
      · subst h0
        simp only [if_true] at h
        cases h
        exact List.mem_cons_self
      · simp only [h0, if_false] at h
        have := ih (i + 1) (a - 1) v h
        rw [show i + 1 + (a - 1) = i + a by omega] at this
        exact List.mem_cons_of_mem _ this
    cases w <;> first | exact h2 .null rfl h | exact h1 .null (by simp [Value.category]) h
theorem px_ent_L (B0 b : Nat) {as : List Value} {n : Nat} (h : (px_exp as).length ≤ n) : px_L B0 b (px_ent as n) ((lg_sl (as.map (px_v B0 b)) ++ List.replicate (n - (lg_sl (as.map (px_v B0 b))).length) Slot.unset).toArray) n := by
  have h1 := lv_entry (as.map (px_v B0 b)) (n := n) (by rw [px_exp_len]; exact h)
  refine ⟨px_ent_len h, h1.1, h1.2.1, fun a v hv => ?_⟩
  have h2 := px_ent_args B0 b as 0 a v hv
  rw [Nat.zero_add] at h2
  exact h1.2.2 _ h2
/-- how a method ends -/
def px_re (M : px_M) (r : Option Value) (pc : Nat) : Prop := (px_rt M = 0 ∧ r = none ∧ decode (px_cc M) pc = .ok (.return_, 1)) ∨ (px_rt M = 1 ∧ ∃ x : Int32, r = some (.int x) ∧ decode (px_cc M) pc = .ok (.ireturn, 1)) ∨ (px_rt M = 2 ∧ ∃ x : Int32, r = some (.int x) ∧ (x = 0 ∨ x = 1) ∧ decode (px_cc M) pc = .ok (.ireturn, 1)) ∨ (px_rt M = 3 ∧ ∃ x : Int64, r = some (.long x) ∧ decode (px_cc M) pc = .ok (.lreturn, 1))
theorem px_nx_re {tb : Nat → Option px_M} {M : px_M} {L : Nat} {xs : Nat → Int32} {f : px_F} {h : px_H} {r : Option Value} (hok : px_ok3 tb M) (hs : px_nx M L xs f h = some (.inr (.inl r))) : px_re M r f.1 ∧ f.2.2 = r.toList := by
  unfold px_nx at hs
  split at hs
  · cases hs
  · rename_i i hi
    have hd := hok.1 _ (px_at_mem hi)
    obtain ⟨op, len, imm, a, b'⟩ := i
    split at hs
    · rename_i e
      dsimp only at e
      subst e
      split at hs
      · rename_i x hst
        split at hs
        · rename_i hrt
          cases hs
          exact ⟨Or.inr (Or.inl ⟨hrt, x, rfl, hd⟩), hst⟩
        · rename_i hrt
          split at hs
          · cases hs
          · rename_i h01
            cases hs
            refine ⟨Or.inr (Or.inr (Or.inl ⟨hrt, x, rfl, ?_, hd⟩)), hst⟩
            by_cases h0 : x = 0
            · exact Or.inl h0
            · by_cases h1 : x = 1
              · exact Or.inr h1
              · exact absurd ⟨h0, h1⟩ h01
        · cases hs
      · cases hs
    · rename_i e
      dsimp only at e
      subst e
      split at hs
      · rename_i x hst
        split at hs
        · rename_i hrt
          cases hs
          exact ⟨Or.inr (Or.inr (Or.inr ⟨hrt, x, rfl, hd⟩)), hst⟩
        · cases hs
      · cases hs
    · rename_i e
      dsimp only at e
      subst e
      split at hs
      · rename_i hst
        split at hs
        · rename_i hrt
          cases hs
          exact ⟨Or.inl ⟨hrt, rfl, hd⟩, hst⟩
        · cases hs
      · cases hs
    · cases e : (Nat.ble b' f.2.2.length && Nat.ble (px_cs (f.2.2.drop b')) 8 && px_rcv h.1 imm (f.2.2.take b').reverse) <;> (rw [e] at hs; cases hs)
    · cases e : Nat.ble 1001 a with
      | true =>
        rw [e] at hs
        simp only [cond_true] at hs
        cases e2 : Nat.ble (px_cs f.2.2) 16 with
        | false => rw [e2] at hs; cases hs
        | true =>
          rw [e2] at hs
          simp only [cond_true] at hs
          obtain ⟨q, e3, e4⟩ := Option.map_eq_some_iff.mp hs
          cases e4
      | false =>
        rw [e] at hs
        simp only [cond_false] at hs
        cases e2 : (Nat.ble b' f.2.2.length && Nat.ble (px_cs (f.2.2.drop b')) 8) <;> (rw [e2] at hs; cases hs)
    · cases e : Nat.beq a 1000 with
      | true =>
        rw [e] at hs
        simp only [cond_true] at hs
        split at hs
        · rename_i r hr
          cases e2 : Nat.ble (px_cs r) 8 <;> (rw [e2] at hs; cases hs)
        · cases hs
      | false =>
        rw [e] at hs
        simp only [cond_false] at hs
        cases e2 : (Nat.ble b' f.2.2.length && Nat.ble (px_cs (f.2.2.drop b')) 8 && px_hd (f.2.2.take b').reverse) <;> (rw [e2] at hs; cases hs)
    · obtain ⟨q, e3, e4⟩ := Option.map_eq_some_iff.mp hs
      cases e4
section PX4
variable {tb : Nat → Option px_M} {D : va_G} {cI cZ B0 b L n0 ss0 : Nat} {xs : Nat → Int32} {M : px_M} {p : Program} {l : Launch} {e : Env} {R : Room} {s : State} {m : MethodId} {args : Array Value} {below : List Frame} {meth : Method} {c : Code} {H : Heap} {locs : List Loc} {cells slots : Nat} {Q : State → Prop} {ls : Array Slot}
theorem px_back {pc mc ms : Nat} {st0 rest : List Value} {a : Array Value} {r : Option Value} {h' : px_H} (hr : va_Run p l e R s m args below meth c H locs cells slots mc ms (F0 m pc ls st0) rest (px_Qc D cI cZ B0 b r h' a) (fun q => B0 ≤ q)) (hS : va_S (fun q => B0 ≤ q) s.heap H locs)
    (kk : ∀ (H1 : Heap) (locs1 : List Loc), px_Wd D cI cZ B0 s h' H1 locs1 → W p l e R s m args below meth c H1 locs1 (cells + mc) (slots + ms) Q (F0 m (pc + 3) ls ((r.map (px_v B0 b)).toList ++ rest))) : W p l e R s m args below meth c H locs cells slots Q (F0 m pc ls st0) := by
  intro T hT X
  obtain ⟨v, st₀, t, T', L', h0, X', hL, e1, e2, ⟨hv, hP, hz, hk⟩, st⟩ := hr T hT X
  cases hv
  rw [h0] at hz hk
  obtain ⟨t2, a1, b1⟩ := kk T'.heap (locs ++ L') ⟨by rw [e1]; exact hP, Nat.le_trans hS.1 (by rw [e1]; exact hz), fun q h1 h2 => by rw [e1, hk q (Nat.lt_of_lt_of_le h1 hS.1) h2]; exact hS.2.1 q h1 h2, fun q hq => by
      rcases List.mem_append.mp hq with h | h
      · exact hS.2.2 q h
      · exact hL q h⟩ T' rfl X'
  exact ⟨t2, st t2 a1, b1⟩
/-- an instruction that goes on -/
theorem px_snd_nx {f f' : px_F} {h h' : px_H} (C : px_C tb D cI cZ B0 b L n0 xs M p R s m args meth c) (hs : px_nx M L xs f h = some (.inl (f', h'))) (hW : px_Wd D cI cZ B0 s h H locs) (hl : px_L B0 b f.2.1 ls (px_ml M)) (hn : n0 ≤ h.1.length) (hz : ss0 ≤ px_ss h.1) (hRc : h'.1.length ≤ n0 + R.cells) (hRs : px_ss h'.1 ≤ ss0 + R.slots)
    (k : ∀ (H' : Heap) (locs' : List Loc) (ls' : Array Slot), px_Wd D cI cZ B0 s h' H' locs' → px_L B0 b f'.2.1 ls' (px_ml M) → W p l e R s m args below meth c H' locs' (h'.1.length - n0) (px_ss h'.1 - ss0) Q (F0 m f'.1 ls' (f'.2.2.map (px_v B0 b)))) :
    W p l e R s m args below meth c H locs (h.1.length - n0) (px_ss h.1 - ss0) Q (F0 m f.1 ls (f.2.2.map (px_v B0 b))) := by
  unfold px_nx at hs
  split at hs
  · cases hs
  · rename_i i hi
    obtain ⟨hd, hB, hq⟩ := px_row C hi
    obtain ⟨op, len, imm, a, b'⟩ := i
    split at hs
    · split at hs
      · split at hs
        · cases hs
        · split at hs <;> cases hs
        · cases hs
      · cases hs
    · split at hs
      · split at hs <;> cases hs
      · cases hs
    · split at hs
      · split at hs <;> cases hs
      · cases hs
    · cases e : (Nat.ble b' f.2.2.length && Nat.ble (px_cs (f.2.2.drop b')) 8 && px_rcv h.1 imm (f.2.2.take b').reverse) <;> (rw [e] at hs; cases hs)
    · rename_i idx eo
      dsimp only at eo
      subst eo
      cases e : Nat.ble 1001 a with
      | true =>
        rw [e] at hs
        have e := Nat.le_of_ble_eq_true e
        simp only [cond_true] at hs
        cases e2 : Nat.ble (px_cs f.2.2) 16 with
        | false => rw [e2] at hs; cases hs
        | true =>
          rw [e2] at hs
          simp only [cond_true] at hs
          obtain ⟨⟨st', h2⟩, e3, e4⟩ := Option.map_eq_some_iff.mp hs
          cases e4
          have hlen := px_bl_sh e3
          rw [← hlen]
          have hBB : 1 ≤ px_fr M ∧ 29 ≤ px_lc M := of_decide_eq_true hB e
          have hkS : px_kS tb (px_oc M) idx a b' := hq _ rfl
          unfold px_bl at e3
          cases e9 : Nat.beq a 1001 with
          | true =>
            rw [e9] at e3
            have e9 := Nat.eq_of_beq_eq_true e9
            subst e9
            exact px_copy C hd (Or.inr ⟨b', hkS⟩) hW hBB hl.2.1 (Nat.le_of_ble_eq_true e2) e3 fun H' l' hW' => k H' l' ls hW' hl
          | false =>
            rw [e9] at e3
            simp only [cond_false] at e3
            have hne : ¬ a = 1001 := fun q => by rw [q] at e9; cases e9
            unfold px_kS at hkS
            rw [if_pos e, if_neg hne] at hkS
            unfold px_mx at e3
            split at e3
            · rename_i y x r hst
              cases e3
              rw [hst]
              have hfr : px_fr M ≤ R.frames := C.2.2.2.2.2.2.2.2.1
              have hlc : px_lc M ≤ R.locals := C.2.2.2.2.2.2.2.2.2.1
              have e2 := Nat.le_of_ble_eq_true e2
              rw [hst] at e2
              simp only [px_cs, Value.category] at e2
              refine va_mmax C.1 C.2.1 (C.2.2.1.trans hl.2.1.symm) C.2.2.2.1 (C.2.2.2.2.1 _ hkS.1) (C.2.2.2.2.1 _ hkS.2.1) (C.2.2.2.2.1 _ hkS.2.2.1) (C.2.2.2.2.1 _ hkS.2.2.2) (by omega) (by rw [px_cs_map]; omega) (by simp only at hRc ⊢; omega) (by simp only at hRs ⊢; omega) hd (k H locs ls hW hl)
            · cases e3
      | false =>
        rw [e] at hs
        simp only [cond_false] at hs
        cases e2 : (Nat.ble b' f.2.2.length && Nat.ble (px_cs (f.2.2.drop b')) 8) <;> (rw [e2] at hs; cases hs)
    · rename_i idx eo
      dsimp only at eo
      subst eo
      cases e : Nat.beq a 1000 with
      | true =>
        rw [e] at hs
        have e := Nat.eq_of_beq_eq_true e
        subst e
        simp only [cond_true] at hs
        split at hs
        · rename_i kk r hr
          cases e2 : Nat.ble (px_cs r) 8 with
          | false => rw [e2] at hs; cases hs
          | true =>
            rw [e2] at hs
            cases hs
            have h8 := Nat.le_of_ble_eq_true e2
            have hkI : px_kI tb (px_oc M) idx 1000 b' := hq _ rfl
            unfold px_kI at hkI
            simp only [if_true] at hkI
            have hBB : 1 ≤ px_fr M ∧ 20 ≤ px_lc M := of_decide_eq_true hB rfl
            have hfr : px_fr M ≤ R.frames := C.2.2.2.2.2.2.2.2.1
            have hlc : px_lc M ≤ R.locals := C.2.2.2.2.2.2.2.2.2.1
            rw [hr]
            refine W.objInit C.1 C.2.1 C.2.2.2.1 (C.2.2.2.2.1 _ hkI.1) (C.2.2.2.2.1 _ hkI.2.1) (C.2.2.2.2.1 _ hkI.2.2) rfl (by rw [C.2.2.1]; exact hl.2.1) rfl hd (by omega) (by
              have h9 : 2 * (F0 m f.1 ls ((Value.ref kk :: r).map (px_v B0 b))).monitorRoom + ((r.map (px_v B0 b)).map fun v => v.category).sum ≤ 8 := lv_room (by rw [px_cs_map]; exact h8)
              omega) (k H locs ls hW hl)
        · cases hs
      | false =>
        rw [e] at hs
        simp only [cond_false] at hs
        cases e2 : (Nat.ble b' f.2.2.length && Nat.ble (px_cs (f.2.2.drop b')) 8 && px_hd (f.2.2.take b').reverse) <;> (rw [e2] at hs; cases hs)
    · obtain ⟨⟨f2, h2⟩, e3, e4⟩ := Option.map_eq_some_iff.mp hs
      cases e4
      exact px_snd_st C hd hB hq e3 hW hl hn hz hRc hRs k
end PX4
