/-! A STEP OF THE PURE MACHINE IS A STEP OF THE MACHINE -/
def px_ss (sh : px_S) : Nat := (sh.map fun x => x.2.1).sum
def px_C (tb : Nat → Option px_M) (D : va_G) (cI cZ B0 b L n0 : Nat) (xs : Nat → Int32) (M : px_M) (p : Program) (R : Room) (s : State) (m : MethodId) (args : Array Value) (meth : Method) (c : Code) : Prop :=
  p.tables.exec = Jvm.exec ∧ c.code = px_cc M ∧ c.maxLocals = px_ml M ∧ s.vm.findClass (px_cn (px_oc M)) = some m.cls ∧ (∀ w ∈ px_TB, w.before args s = true) ∧ (∀ w ∈ px_NW, va_Nw w s) ∧ va_K D vwCl [(cI, .int), (cZ, .boolean)] s ∧ (px_in M = true → meth.name = "<init>") ∧ px_fr M ≤ R.frames ∧ px_lc M ≤ R.locals ∧ s.heap.size = B0 + n0 ∧ (px_sc M = true → va_X b L xs s s.heap ∧ b < B0) ∧ px_ok3 tb M
def px_Wd (D : va_G) (cI cZ B0 : Nat) (s : State) (h : px_H) (H : Heap) (locs : List Loc) : Prop := va_P D vwCl (px_w B0 cI cZ h) H ∧ va_S (fun q => B0 ≤ q) s.heap H locs
section PX1
variable {tb : Nat → Option px_M} {D : va_G} {cI cZ B0 b L n0 ss0 : Nat} {xs : Nat → Int32} {M : px_M} {p : Program} {l : Launch} {e : Env} {R : Room} {s : State} {m : MethodId} {args : Array Value} {below : List Frame} {meth : Method} {c : Code} {H : Heap} {locs : List Loc} {cells slots : Nat} {Q : State → Prop} {ls : Array Slot}
theorem px_size {h : px_H} {g : JFrame} (hW : px_Wd D cI cZ B0 s h H locs) (hs0 : s.heap.size = B0 + n0) (hn : n0 ≤ h.1.length)
    (kk : H.size = B0 + h.1.length → W p l e R s m args below meth c H locs (h.1.length - n0) slots Q g) : W p l e R s m args below meth c H locs (h.1.length - n0) slots Q g := by
  intro T hT X
  have h1 := X.heapSize
  rw [hT, hs0] at h1
  have h2 : B0 + h.1.length ≤ H.size := by
    rcases Nat.eq_zero_or_pos h.1.length with q | q
    · have := hW.2.1; omega
    · obtain ⟨x, hx⟩ : ∃ x, h.1[h.1.length - 1]? = some x := ⟨_, List.getElem?_eq_getElem (by omega)⟩
      have h3 := (hW.1 _ _ (px_w_at hx)).lt
      simp only at h3
      omega
  exact kk (by omega) T hT X
theorem px_map_set {n j : Nat} {f f' : Nat → Value} {v : Value} (hv : f' j = v) (ho : ∀ i, i ≠ j → f' i = f i) : ((List.range n).map f).set j v = (List.range n).map f' := by
  apply List.ext_getElem?
  intro i
  rw [List.getElem?_set]
  by_cases hi : j = i
  · subst hi
    by_cases hl : j < n <;> simp [hl, hv]
  · by_cases hl : i < n
    · simp [hi, hl, ho i (Ne.symm hi)]
    · simp [hi, hl]
theorem px_rd {c : Nat} {n : Nat} {f : Nat → Value} (h : c < n) : ((List.range n).map f)[c]? = some (f c) := by simp [h]
/-- what a row of a method gives -/
theorem px_row {f : px_F} {i : px_I} (C : px_C tb D cI cZ B0 b L n0 xs M p R s m args meth c) (hi : px_at (px_is M) f.1 = some i) : decode (px_cc M) f.1 = .ok (i.1, px_ln i) ∧ px_okB M f.1 i = true ∧ ∀ q, px_key i = some q → px_okK tb (px_oc M) q := by
  have hm := px_at_mem hi
  have h3 : px_ok3 tb M := C.2.2.2.2.2.2.2.2.2.2.2.2
  exact ⟨h3.1 (f.1, i) hm, h3.2.1 (f.1, i) hm, h3.2.2 (f.1, i) hm⟩
theorem px_updfv {B0 : Nat} {rf : List (Option Nat)} {g : Nat → Int32} {c j i : Nat} {x : Int32} (h : i ≠ j) : px_fv B0 rf (upd g j x) c i = px_fv B0 rf g c i := by
  unfold px_fv upd
  simp [h]
theorem px_updrf {B0 : Nat} {rf : List (Option Nat)} {g : Nat → Int32} {c j i q : Nat} (h : i ≠ j) : px_fv B0 (rf.set j (some q)) g c i = px_fv B0 rf g c i := by
  unfold px_fv
  rw [List.getElem?_set]
  simp [Ne.symm h]
theorem px_up_eq {σ : Nat → Nat → Int32} {k : Nat} {f : Nat → Int32} : px_up σ k f k = f := by simp [px_up]
theorem px_up_ne {σ : Nat → Nat → Int32} {k j : Nat} {f : Nat → Int32} (h : j ≠ k) : px_up σ k f j = σ j := by simp [px_up, h]
theorem px_getfield {pc idx c' j k n : Nat} {imm : Value} {rest : List Value} {h : px_H} {rf : List (Option Nat)} {v : Value} (C : px_C tb D cI cZ B0 b L n0 xs M p R s m args meth c) (hdg : decode (px_cc M) pc = .ok (.getfield idx, 3)) (hk : px_kF (px_oc M) idx imm c' j) (hW : px_Wd D cI cZ B0 s h H locs)
    (hc : h.1[k]? = some (c', n, rf)) (hv : v = px_fv B0 rf (h.2 k) c' j) (kk : W p l e R s m args below meth c H locs cells slots Q (F0 m (pc + 3) ls (v :: rest))) : W p l e R s m args below meth c H locs cells slots Q (F0 m pc ls (.ref (B0 + k) :: rest)) := by
  obtain ⟨hx, hb, hml, hown, hts, hnw, hK, -⟩ := C
  obtain ⟨h4, hj, hl, -⟩ := hk
  have hat := px_w_at (B0 := B0) (cI := cI) (cZ := cZ) hc
  rw [px_e_obj h4] at hat
  subst hv
  rcases hl with hl | ⟨-, host, hl⟩
  · exact va_get hx hb hts (px_clw h4) hown hK hW.1 k hat (px_cl h4) j hj (hts _ hl) (fun x q => by rw [← (px_clf h4 j hj).1]; exact q) (px_rd hj) hdg kk
  · exact va_getN hx hb hts (px_clw h4) hown hK hW.1 k hat (px_cl h4) j hj (va_Nw.use rfl (hnw _ hl)) (fun x q => by rw [← (px_clf h4 j hj).1]; exact q) (px_rd hj) hdg kk
theorem px_putint {pc idx c' j k n : Nat} {imm : Value} {rest : List Value} {h : px_H} {rf : List (Option Nat)} {x : Int32} (C : px_C tb D cI cZ B0 b L n0 xs M p R s m args meth c) (hdg : decode (px_cc M) pc = .ok (.putfield idx, 3)) (hk : px_kF (px_oc M) idx imm c' j) (hW : px_Wd D cI cZ B0 s h H locs)
    (hc : h.1[k]? = some (c', n, rf)) (hi : ¬ imm = .null) (hb1 : imm = .int 1 → x = 0 ∨ x = 1)
    (kk : ∀ (H' : Heap) (locs' : List Loc), px_Wd D cI cZ B0 s (h.1, px_up h.2 k (upd (h.2 k) j x)) H' locs' → W p l e R s m args below meth c H' locs' cells slots Q (F0 m (pc + 3) ls rest)) : W p l e R s m args below meth c H locs cells slots Q (F0 m pc ls (.int x :: .ref (B0 + k) :: rest)) := by
  obtain ⟨hx, hb, hml, hown, hts, hnw, hK, -⟩ := C
  obtain ⟨h4, hj, hl, hs⟩ := hk
  have hat := px_w_at (B0 := B0) (cI := cI) (cZ := cZ) hc
  rw [px_e_obj h4] at hat
  have hfz : px_fz c' j = false := by
    rcases hs with ⟨q, -⟩ | ⟨-, q⟩ | ⟨-, q⟩
    · exact absurd q hi
    · unfold px_fz; rw [q]
    · unfold px_fz; rw [q]
  have hn : narrow (px_ty c' j) (.int x) = .int x ∧ fits (px_ty c' j) (.int x) = true := by
    rcases hs with ⟨q, -⟩ | ⟨-, q⟩ | ⟨q1, q⟩
    · exact absurd q hi
    · rw [q]; exact ⟨rfl, rfl⟩
    · rw [q]
      rcases hb1 q1 with rfl | rfl <;> exact ⟨by decide, by decide⟩
  have hset : ((px_w B0 cI cZ h).set k (B0 + k, .inr (c', ((List.range (px_fN c')).map (px_fv B0 rf (h.2 k) c')).set j (.int x)))) = px_w B0 cI cZ (h.1, px_up h.2 k (upd (h.2 k) j x)) := by
    refine px_w_set rfl (fun i hi => ⟨rfl, px_up_ne hi⟩) (fun y hy => ?_)
    have e1 : y = (c', n, rf) := Option.some.inj (hy.symm.trans hc)
    subst e1
    rw [px_e_obj h4]
    simp only [px_up_eq]
    rw [px_map_set (f' := px_fv B0 rf (upd (h.2 k) j x) c')]
    · unfold px_fv upd; simp [hfz]
    · exact fun i hi => px_updfv hi
  rcases hl with hl | ⟨-, host, hl⟩
  · refine va_put hx hb hts (px_clw h4) (px_ty c') (px_clt h4) (px_cln h4) hown hK hW.1 (px_w_D B0 cI cZ h) hW.2 k hat (px_cl h4) j hj (hts _ hl) (fun x q => by rw [← (px_clf h4 j hj).1]; exact q) (by rw [(px_clf h4 j hj).2.1, hfz]) (px_clt h4 j hj) hn.1 hn.2 (by simp [hj]) hdg fun H1 l1 a1 a2 a3 => ?_
    rw [hset] at a1
    exact kk H1 l1 ⟨a1, a3⟩
  · refine va_putN hx hb hts (px_clw h4) (px_ty c') (px_clt h4) (px_cln h4) hown hK hW.1 (px_w_D B0 cI cZ h) hW.2 k hat (px_cl h4) j hj (va_Nw.use rfl (hnw _ hl)) (fun x q => by rw [← (px_clf h4 j hj).1]; exact q) (by rw [(px_clf h4 j hj).2.1, hfz]) (px_clt h4 j hj) hn.1 hn.2 (by simp [hj]) hdg fun H1 l1 a1 a2 a3 => ?_
    rw [hset] at a1
    exact kk H1 l1 ⟨a1, a3⟩
theorem px_putref {pc idx c' j k n q : Nat} {rest : List Value} {h : px_H} {rf : List (Option Nat)} (C : px_C tb D cI cZ B0 b L n0 xs M p R s m args meth c) (hdg : decode (px_cc M) pc = .ok (.putfield idx, 3)) (hk : px_kF (px_oc M) idx .null c' j) (hW : px_Wd D cI cZ B0 s h H locs)
    (hc : h.1[k]? = some (c', n, rf)) (hin : px_in M = true) (ho : px_oc M = c') (hrf : j < rf.length)
    (kk : ∀ (H' : Heap) (locs' : List Loc), px_Wd D cI cZ B0 s (h.1.set k (c', n, rf.set j (some q)), h.2) H' locs' → W p l e R s m args below meth c H' locs' cells slots Q (F0 m (pc + 3) ls rest)) : W p l e R s m args below meth c H locs cells slots Q (F0 m pc ls (.ref (B0 + q) :: .ref (B0 + k) :: rest)) := by
  obtain ⟨hx, hb, hml, hown, hts, hnw, hK, hini, -⟩ := C
  obtain ⟨h4, hj, hl, hs⟩ := hk
  have hat := px_w_at (B0 := B0) (cI := cI) (cZ := cZ) hc
  rw [px_e_obj h4] at hat
  have hfz : px_fz c' j = true := by
    rcases hs with ⟨-, q⟩ | ⟨q, -⟩ | ⟨q, -⟩
    · exact q
    · cases q
    · cases q
  have hn := px_isR_spec (px_fzR h4 j hj hfz) (B0 + q)
  have hkl : k < h.1.length := (List.getElem?_eq_some_iff.mp hc).1
  have hset : ((px_w B0 cI cZ h).set k (B0 + k, .inr (c', ((List.range (px_fN c')).map (px_fv B0 rf (h.2 k) c')).set j (.ref (B0 + q))))) = px_w B0 cI cZ (h.1.set k (c', n, rf.set j (some q)), h.2) := by
    refine px_w_set (by simp) (fun i hi => ⟨by simp [List.getElem?_set, Ne.symm hi], rfl⟩) (fun y hy => ?_)
    have e1 : y = (c', n, rf.set j (some q)) := by
      simp [List.getElem?_set, hkl] at hy
      exact hy.symm
    subst e1
    rw [px_e_obj h4]
    rw [px_map_set (f' := px_fv B0 (rf.set j (some q)) (h.2 k) c')]
    · unfold px_fv; simp [hfz, hrf]
    · exact fun i hi => px_updrf hi
  rcases hl with hl | ⟨hl, -⟩
  · refine va_putF hx hb hts (px_clw h4) (px_ty c') (px_clt h4) (px_cln h4) hown hK hW.1 (px_w_D B0 cI cZ h) hW.2 k hat (px_cl h4) j hj (hts _ hl) (fun x q => by rw [← (px_clf h4 j hj).1]; exact q) (by rw [(px_clf h4 j hj).2.1, hfz]) (hini hin) (by rw [(px_clf h4 j hj).1, ho]) (px_clt h4 j hj) hn.1 hn.2 (by simp [hj]) hdg fun H1 l1 a1 a2 a3 => ?_
    rw [hset] at a1
    exact kk H1 l1 ⟨a1, a3⟩
  · exact absurd ho hl
end PX1
