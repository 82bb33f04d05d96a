/-! plain instructions -/
theorem px_bd {a : Bool} {b : Prop} [Decidable b] (h : decide b = true) : b := of_decide_eq_true h
section PX2
variable {tb : Nat → Option px_M} {D : va_G} {cI cZ B0 b L n0 ss0 : Nat} {xs : Nat → Int32} {M : px_M} {p : Program} {l : Launch} {e : Env} {R : Room} {s : State} {m : MethodId} {args : Array Value} {below : List Frame} {meth : Method} {c : Code} {H : Heap} {locs : List Loc} {cells slots : Nat} {Q : State → Prop} {ls : Array Slot}
theorem px_new {pc idx c' : Nat} {rest : List Value} {h : px_H} (C : px_C tb D cI cZ B0 b L n0 xs M p R s m args meth c) (hdg : decode (px_cc M) pc = .ok (.new idx, 3)) (hk : px_kN (px_oc M) idx c') (hW : px_Wd D cI cZ B0 s h H locs) (hn : n0 ≤ h.1.length) (hz : ss0 ≤ px_ss h.1) (hRc : h.1.length + 1 ≤ n0 + R.cells) (hRs : px_ss h.1 + px_fN c' ≤ ss0 + R.slots)
    (kk : ∀ (H' : Heap), px_Wd D cI cZ B0 s (h.1 ++ [(c', px_fN c', List.replicate (px_fN c') none)], px_up h.2 h.1.length (fun _ => 0)) H' locs → W p l e R s m args below meth c H' locs (h.1.length - n0 + 1) (px_ss h.1 - ss0 + px_fN c') Q (F0 m (pc + 3) ls (.ref (B0 + h.1.length) :: rest))) : W p l e R s m args below meth c H locs (h.1.length - n0) (px_ss h.1 - ss0) Q (F0 m pc ls rest) := by
  obtain ⟨hx, hb, hml, hown, hts, hnw, hK, -, -, -, hs0, -⟩ := C
  obtain ⟨h4, k1, k2, k3⟩ := hk
  refine px_size hW hs0 hn fun hsz => ?_
  have hKn := hK.1 c' _ (px_cl h4)
  refine W.newcK hx hb hown (hts _ k1) (hts _ k2) (hts _ k3) rfl hdg (by omega) (by omega) hKn.2.1 hsz fun H1 kC hkC e1 z1 o1 => ?_
  have hk : ∀ (k : Nat) (x : Nat × va_E), (px_w B0 cI cZ h)[k]? = some x → H1[x.1]? = H[x.1]? := fun k x hx => o1 x.1 (by have := (px_w_inv hx).1; have := (px_w_inv hx).2; omega)
  refine kk H1 ⟨?_, ?_⟩
  · rw [← px_w_push (B0 := B0) (cI := cI) (cZ := cZ) (h := h) (x := (c', px_fN c', List.replicate (px_fN c') none)) (e := .inr (c', (List.range (px_fN c')).map (px_fv B0 (List.replicate (px_fN c') none) (fun _ => 0) c'))) rfl (fun j hj => px_up_ne (by omega)) (by rw [px_e_obj h4]; simp only [px_up_eq])]
    refine (hW.1.kept hk).app (fun k x hx => ?_)
    have hz : k < 1 := (List.getElem?_eq_some_iff.mp hx).1
    rw [show k = 0 by omega] at hx
    cases hx
    refine ⟨_, px_cl h4, (u_born (px_ty c') hts (px_clw h4) hKn hkC e1 (px_clt h4)).to (fun j hj => ?_)⟩
    rw [(px_clf h4 j hj).2.2]
    unfold vp_V
    rw [List.getD_eq_getElem?_getD, px_rd hj]
    unfold px_fv
    cases px_fz c' j <;> simp [hj]
  · exact ⟨Nat.le_trans hW.2.1 (by omega), fun x h1 h2 => (o1 x (by have := hW.2.1; omega)).trans (hW.2.2.1 x h1 h2), hW.2.2.2⟩
theorem px_newa {pc kd : Nat} {t : ArrayType} {n : Int32} {rest : List Value} {h : px_H} (C : px_C tb D cI cZ B0 b L n0 xs M p R s m args meth c) (hdg : decode (px_cc M) pc = .ok (.newarray t, 2)) (hk : (t = .int ∧ kd = 4) ∨ (t = .boolean ∧ kd = 5)) (ha : Cond.arrayClass .int ∈ px_TB ∧ Cond.arrayClass .boolean ∈ px_TB) (hW : px_Wd D cI cZ B0 s h H locs) (hn : n0 ≤ h.1.length) (hz : ss0 ≤ px_ss h.1) (hRc : h.1.length + 1 ≤ n0 + R.cells) (hRs : px_ss h.1 + n.toNatClampNeg ≤ ss0 + R.slots) (hn0 : ¬ n < 0) (hn1 : n.toNatClampNeg ≤ 65536)
    (kk : ∀ (H' : Heap), px_Wd D cI cZ B0 s (h.1 ++ [(kd, n.toNatClampNeg, [])], px_up h.2 h.1.length (fun _ => 0)) H' locs → W p l e R s m args below meth c H' locs (h.1.length - n0 + 1) (px_ss h.1 - ss0 + n.toNatClampNeg) Q (F0 m (pc + 2) ls (.ref (B0 + h.1.length) :: rest))) : W p l e R s m args below meth c H locs (h.1.length - n0) (px_ss h.1 - ss0) Q (F0 m pc ls (.int n :: rest)) := by
  obtain ⟨hx, hb, hml, hown, hts, hnw, hK, -, -, -, hs0, -⟩ := C
  refine px_size hW hs0 hn fun hsz => ?_
  refine va_newaK hx hb (by rcases hk with ⟨rfl, -⟩ | ⟨rfl, -⟩; exact hts _ ha.1; exact hts _ ha.2) rfl hdg rfl hn0 rfl (by rcases hk with ⟨rfl, -⟩ | ⟨rfl, -⟩ <;> simp [newarray.typeOf, componentBytes] <;> omega) (by omega) (by omega) hsz fun H1 cA e1 z1 o1 hAr hNm => ?_
  have hk2 : ∀ (k : Nat) (x : Nat × va_E), (px_w B0 cI cZ h)[k]? = some x → H1[x.1]? = H[x.1]? := fun k x hx => o1 x.1 (by have := (px_w_inv hx).1; have := (px_w_inv hx).2; omega)
  refine kk H1 ⟨?_, ?_⟩
  · rw [← px_w_push (B0 := B0) (cI := cI) (cZ := cZ) (h := h) (x := (kd, n.toNatClampNeg, [])) (e := .inl (cA, n.toNatClampNeg, .inl (fun _ => 0))) rfl (fun j hj => px_up_ne (by omega)) (by
      rcases hk with ⟨rfl, rfl⟩ | ⟨rfl, rfl⟩
      · have e2 : cA = cI := Option.some.inj (hNm.symm.trans (hK.2 0 _ rfl).2)
        rw [e2]; simp only [px_up_eq]; rfl
      · have e2 : cA = cZ := Option.some.inj (hNm.symm.trans (hK.2 1 _ rfl).2)
        rw [e2]; simp only [px_up_eq]; rfl)]
    refine (hW.1.kept hk2).app (fun k x hx => ?_)
    have hz : k < 1 := (List.getElem?_eq_some_iff.mp hx).1
    rw [show k = 0 by omega] at hx
    cases hx
    show H1[B0 + h.1.length]? = some (vp_cell _ _)
    rw [e1]
    rcases hk with ⟨rfl, -⟩ | ⟨rfl, -⟩ <;> rfl
  · exact ⟨Nat.le_trans hW.2.1 (by omega), fun x h1 h2 => (o1 x (by have := hW.2.1; omega)).trans (hW.2.2.1 x h1 h2), hW.2.2.2⟩
theorem px_ald {pc k n : Nat} {j : Int32} {rf : List (Option Nat)} {rest : List Value} {h : px_H} (C : px_C tb D cI cZ B0 b L n0 xs M p R s m args meth c) (hdg : decode (px_cc M) pc = .ok (.iaload, 1)) (hW : px_Wd D cI cZ B0 s h H locs) (hc : h.1[k]? = some (4, n, rf)) (hin : ¬ (j < 0 ∨ n ≤ j.toNatClampNeg))
    (kk : W p l e R s m args below meth c H locs cells slots Q (F0 m (pc + 1) ls (.int (h.2 k j.toNatClampNeg) :: rest))) : W p l e R s m args below meth c H locs cells slots Q (F0 m pc ls (.int j :: .ref (B0 + k) :: rest)) := by
  obtain ⟨hx, hb, hml, hown, hts, hnw, hK, -⟩ := C
  have hat := px_w_at (B0 := B0) (cI := cI) (cZ := cZ) hc
  exact va_iald hx hb hK hW.1 k 0 hat rfl hin hdg kk
theorem px_zld {pc k n : Nat} {j : Int32} {rf : List (Option Nat)} {rest : List Value} {h : px_H} (C : px_C tb D cI cZ B0 b L n0 xs M p R s m args meth c) (hdg : decode (px_cc M) pc = .ok (.baload, 1)) (hW : px_Wd D cI cZ B0 s h H locs) (hc : h.1[k]? = some (5, n, rf)) (hin : ¬ (j < 0 ∨ n ≤ j.toNatClampNeg))
    (kk : W p l e R s m args below meth c H locs cells slots Q (F0 m (pc + 1) ls (.int (h.2 k j.toNatClampNeg) :: rest))) : W p l e R s m args below meth c H locs cells slots Q (F0 m pc ls (.int j :: .ref (B0 + k) :: rest)) := by
  obtain ⟨hx, hb, hml, hown, hts, hnw, hK, -⟩ := C
  have hat := px_w_at (B0 := B0) (cI := cI) (cZ := cZ) hc
  exact va_zald hx hb hK hW.1 k 1 hat rfl hin hdg kk
theorem px_ast {pc k n : Nat} {j x : Int32} {rf : List (Option Nat)} {rest : List Value} {h : px_H} (C : px_C tb D cI cZ B0 b L n0 xs M p R s m args meth c) (hdg : decode (px_cc M) pc = .ok (.iastore, 1)) (hW : px_Wd D cI cZ B0 s h H locs) (hc : h.1[k]? = some (4, n, rf)) (hin : ¬ (j < 0 ∨ n ≤ j.toNatClampNeg))
    (kk : ∀ (H' : Heap) (locs' : List Loc), px_Wd D cI cZ B0 s (h.1, px_up h.2 k (upd (h.2 k) j.toNatClampNeg x)) H' locs' → W p l e R s m args below meth c H' locs' cells slots Q (F0 m (pc + 1) ls rest)) : W p l e R s m args below meth c H locs cells slots Q (F0 m pc ls (.int x :: .int j :: .ref (B0 + k) :: rest)) := by
  obtain ⟨hx, hb, hml, hown, hts, hnw, hK, -⟩ := C
  have hat := px_w_at (B0 := B0) (cI := cI) (cZ := cZ) hc
  refine va_iast hx hb hK hW.1 (px_w_D B0 cI cZ h) hW.2 k 0 hat rfl hin hdg fun H1 l1 a1 a2 a3 => ?_
  rw [px_w_set (h := h) (k := k) (h' := (h.1, px_up h.2 k (upd (h.2 k) j.toNatClampNeg x))) rfl (fun i hi => ⟨rfl, px_up_ne hi⟩) (fun y hy => by
    have e1 : y = (4, n, rf) := Option.some.inj (hy.symm.trans hc)
    subst e1
    simp only [px_up_eq]; rfl)] at a1
  exact kk H1 l1 ⟨a1, a3⟩
theorem px_zst {pc k n : Nat} {j x : Int32} {rf : List (Option Nat)} {rest : List Value} {h : px_H} (C : px_C tb D cI cZ B0 b L n0 xs M p R s m args meth c) (hdg : decode (px_cc M) pc = .ok (.bastore, 1)) (hW : px_Wd D cI cZ B0 s h H locs) (hc : h.1[k]? = some (5, n, rf)) (hin : ¬ (j < 0 ∨ n ≤ j.toNatClampNeg)) (hz : x = 0 ∨ x = 1)
    (kk : ∀ (H' : Heap) (locs' : List Loc), px_Wd D cI cZ B0 s (h.1, px_up h.2 k (upd (h.2 k) j.toNatClampNeg x)) H' locs' → W p l e R s m args below meth c H' locs' cells slots Q (F0 m (pc + 1) ls rest)) : W p l e R s m args below meth c H locs cells slots Q (F0 m pc ls (.int x :: .int j :: .ref (B0 + k) :: rest)) := by
  obtain ⟨hx, hb, hml, hown, hts, hnw, hK, -⟩ := C
  have hat := px_w_at (B0 := B0) (cI := cI) (cZ := cZ) hc
  have hv : vp_nar .boolean x = x := by rcases hz with rfl | rfl <;> decide
  refine va_zast hx hb hK hW.1 (px_w_D B0 cI cZ h) hW.2 k 1 hat rfl hin hdg fun H1 l1 a1 a2 a3 => ?_
  rw [hv] at a1
  rw [px_w_set (h := h) (k := k) (h' := (h.1, px_up h.2 k (upd (h.2 k) j.toNatClampNeg x))) rfl (fun i hi => ⟨rfl, px_up_ne hi⟩) (fun y hy => by
    have e1 : y = (5, n, rf) := Option.some.inj (hy.symm.trans hc)
    subst e1
    simp only [px_up_eq]; rfl)] at a1
  exact kk H1 l1 ⟨a1, a3⟩
theorem px_copy {pc idx : Nat} {st st' : List Value} {h h' : px_H} (C : px_C tb D cI cZ B0 b L n0 xs M p R s m args meth c) (hdg : decode (px_cc M) pc = .ok (.invokestatic idx, 3)) (hk : px_kS tb (px_oc M) idx 1001 0 ∨ ∃ n, px_kS tb (px_oc M) idx 1001 n) (hW : px_Wd D cI cZ B0 s h H locs) (hfr : 1 ≤ px_fr M ∧ 29 ≤ px_lc M) (hls : ls.size = px_ml M)
    (hq : px_cs st ≤ 16) (hc : px_cp st h = some (st', h'))
    (kk : ∀ (H' : Heap) (locs' : List Loc), px_Wd D cI cZ B0 s h' H' locs' → W p l e R s m args below meth c H' locs' cells slots Q (F0 m (pc + 3) ls (st'.map (px_v B0 b)))) : W p l e R s m args below meth c H locs cells slots Q (F0 m pc ls (st.map (px_v B0 b))) := by
  obtain ⟨hx, hb, hml, hown, hts, hnw, hK, -, hF, hL, -⟩ := C
  have hkk : Cond.methodLink (px_cn (px_oc M)) idx arraycopyName ∈ px_TB ∧ Cond.native arraycopyName ∈ px_TB ∧ Cond.static arraycopyName ∈ px_TB ∧ Cond.initialized "java/lang/System" ∈ px_TB := by
    rcases hk with hk | ⟨n, hk⟩
    · unfold px_kS at hk; simpa using hk
    · unfold px_kS at hk; simpa using hk
  unfold px_cp at hc
  split at hc
  · rename_i n dp d sp q r
    split at hc
    · rename_i nd rd nq rq hd hq2
      split at hc
      · rename_i hcond
        obtain ⟨c1, c2, c3, c4, c5⟩ := hcond
        cases hc
        subst c2; subst c3; subst c4; subst c1
        have hatd := px_w_at (B0 := B0) (cI := cI) (cZ := cZ) hd
        have hatq := px_w_at (B0 := B0) (cI := cI) (cZ := cZ) hq2
        have hnn : (nI nd).toNatClampNeg = nd := nI_clamp (by omega)
        have hz0 : (0 : Int32).toNatClampNeg = 0 := by decide
        have hrs : ((st'.map (px_v B0 b)).map fun v => v.category).sum ≤ 11 := by
          have h9 : ∀ t : List Value, ((t.map (px_v B0 b)).map fun v => v.category).sum = px_cs t := by
            intro t
            induction t with
            | nil => rfl
            | cons a t ih => simp only [List.map_cons, List.sum_cons, px_cs, px_v_cat, ih]
          rw [h9]
          simp only [px_cs, Value.category] at hq
          omega
        refine va_copyi hx hb (hml.trans hls.symm) hown (hts _ hkk.1) (hts _ hkk.2.1) (hts _ hkk.2.2.1) (hts _ hkk.2.2.2) hK hW.1 (px_w_D B0 cI cZ h) hW.2 q d 0 0 hatq hatd rfl rfl rfl (by decide) (by decide) (nI_pos (by omega)) (by rw [hz0, hnn]; omega) (by rw [hz0, hnn]; omega) (fun i _ => rfl) (by omega) (by
          have h8 : nativeFrameWords "java/lang/System" "arraycopy" 5 = 7 := by decide
          rw [h8]; omega) hdg fun H1 l1 a1 a2 a3 => ?_
        refine kk H1 l1 ⟨?_, a3⟩
        rw [hnn, hz0] at a1
        intro k x hkx
        by_cases hkd : k = d
        · subst hkd
          have hd' : (h.1, px_up h.2 k (h.2 q)).1[k]? = some (4, nd, rd) := hd
          rw [px_w_at hd'] at hkx
          cases hkx
          have a2' := a1 k _ (by rw [List.getElem?_set]; simp [px_w_len, (List.getElem?_eq_some_iff.mp hd).1]; rfl)
          show H1[B0 + k]? = some (vp_cell cI (nd, .inl (px_up h.2 k (h.2 q) k)))
          rw [px_up_eq]
          have a4 : H1[B0 + k]? = some (vp_cell cI (nd, .inl (va_cpy (h.2 q) (h.2 k) 0 0 nd))) := a2'
          rw [a4]
          congr 1
          rw [vp_cell_i, vp_cell_i]
          unfold arrV
          congr 1
          congr 1
          funext j
          have : va_cpy (h.2 q) (h.2 k) 0 0 nd j.val = h.2 q j.val := by
            unfold va_cpy
            simp [j.isLt]
          show Value.int _ = Value.int _
          rw [this]
        · refine a1 k x ?_
          rw [List.getElem?_set]
          simp only [Ne.symm hkd, if_false]
          obtain ⟨hlt, -⟩ := px_w_inv hkx
          have hlt : k < h.1.length := hlt
          obtain ⟨y, hy⟩ : ∃ y, h.1[k]? = some y := ⟨_, List.getElem?_eq_getElem hlt⟩
          have hy' : (h.1, px_up h.2 d (h.2 q)).1[k]? = some y := hy
          rw [px_w_at hy'] at hkx
          rw [px_w_at hy, ← hkx]
          simp only [px_up_ne hkd]
      · cases hc
    · cases hc
  · cases hc
end PX2
