/-! the callee's contract out of its run; the call; the run -/
abbrev px_ws (M : px_M) : List Cond := Cond.code (px_y M) (px_cc M) (px_ml M) (px_ret M) :: px_TB
/-- what a run says of the machine -/
def px_Snd (tb : Nat → Option px_M) (L : Nat) (xs : Nat → Int32) (n : Nat) : Prop := ∀ {D : va_G} {cI cZ B0 b n0 ss0 : Nat} {M : px_M} {p : Program} {l : Launch} {e : Env} {R : Room} {s : State} {m : MethodId} {args : Array Value} {below : List Frame} {meth : Method} {c : Code} {H : Heap} {locs : List Loc} {Q : State → Prop} {ls : Array Slot} {f : px_F} {h h' : px_H} {r : Option Value},
  px_run tb L xs n M f h = some (r, h') → px_C tb D cI cZ B0 b L n0 xs M p R s m args meth c → px_Wd D cI cZ B0 s h H locs → px_L B0 b f.2.1 ls (px_ml M) → n0 ≤ h.1.length → ss0 ≤ px_ss h.1 → h'.1.length ≤ n0 + R.cells → px_ss h'.1 ≤ ss0 + R.slots →
  (∀ (pc' : Nat) (H' : Heap) (locs' : List Loc) (ls' : Array Slot), px_Wd D cI cZ B0 s h' H' locs' → px_re M r pc' → W p l e R s m args below meth c H' locs' (h'.1.length - n0) (px_ss h'.1 - ss0) Q (F0 m pc' ls' (r.toList.map (px_v B0 b)))) →
  W p l e R s m args below meth c H locs (h.1.length - n0) (px_ss h.1 - ss0) Q (F0 m f.1 ls (f.2.2.map (px_v B0 b)))
theorem px_met {tb : Nat → Option px_M} {L : Nat} {xs : Nat → Int32} {n : Nat} (ih : px_Snd tb L xs n) (l : Launch) (D : va_G) (cI cZ B0 b : Nat) {M : px_M} {as : List Value} {h h' : px_H} {r : Option Value} (hM : px_okM tb M) (hr : px_run tb L xs n M (0, px_ent as (px_ml M), []) h = some (r, h')) (hlen : (px_exp as).length ≤ px_ml M) :
    Met l (px_y M) (px_ws M) { frames := px_fr M, cells := h'.1.length - h.1.length, slots := px_ss h'.1 - px_ss h.1, locals := px_lc M } (px_Pc D cI cZ B0 b as h) (px_Qc D cI cZ B0 b r h') (h'.1.length - h.1.length) (px_ss h'.1 - px_ss h.1) (fun q => B0 ≤ q) := by
  obtain ⟨hok, hcls, hpl, hcode, hini, hmh, hinit, hsc⟩ := hM
  have hgr := px_gr_run n hr
  refine Met.ofW (cc := px_cc M) (maxL := px_ml M) (ret := px_ret M) hpl rfl ?_
  intro p e s m args below meth c s₁ B hml hv
  obtain ⟨rfl, hsz, hP, hK, hNW⟩ := hv
  have hx := B.exec
  have hb := B.bytes
  have hrt := B.returns
  have hts := atoms_spec (ws := px_ws M) B.pre
  have hown : s.vm.findClass (px_y M).cls = some m.cls := findClass_of_methodNamed B.named
  have hlocks := B.notSynchronized
  have hname : meth.name = (px_y M).name := (name_of_methodNamed B.named B.method).1
  rw [hcls] at hown
  rw [lg_entry_eq]
  have C : px_C tb D cI cZ B0 b L h.1.length xs M p (headSpec (px_ws M) { frames := px_fr M, cells := h'.1.length - h.1.length, slots := px_ss h'.1 - px_ss h.1, locals := px_lc M }).room s m (as.map (px_v B0 b)).toArray meth c :=
    ⟨hx, hb, hml, hown, fun w hw => hts w (List.mem_cons_of_mem _ hw), hNW, hK, fun q => hname.trans (hinit q), Nat.le_refl _, Nat.le_refl _, hsz, fun q => (by rw [hsc] at q; cases q), hok⟩
  have hS : va_S (fun q => B0 ≤ q) s.heap s.heap [] := va_S.rf
  have key := ih (l := l) (e := e) (below := below) (Q := MQ below (px_Qc D cI cZ B0 b r h') (as.map (px_v B0 b)).toArray s (h'.1.length - h.1.length) (px_ss h'.1 - px_ss h.1) (fun q => B0 ≤ q)) (ss0 := px_ss h.1) hr C ⟨hP, hS⟩ (px_ent_L B0 b hlen) (Nat.le_refl _) (Nat.le_refl _) (by show _ ≤ _ + (h'.1.length - h.1.length); have := hgr.1; omega) (by show _ ≤ _ + (px_ss h'.1 - px_ss h.1); have := hgr.2; omega) (fun pc' H' locs' ls' hW' hre => by
    rcases hre with ⟨h1, rfl, h2⟩ | ⟨h1, x, rfl, h2⟩ | ⟨h1, x, rfl, h3, h2⟩ | ⟨h1, x, rfl, h2⟩
    · have hr0 : px_ret M = none := by unfold px_ret; rw [h1]; rfl
      exact W.vret hx hb (hrt.trans hr0) (fun t ht hWm => ⟨rfl, by rw [ht]; exact hW'.1, hW'.2.F ht⟩) hW'.2.2.2 h2
    · have hr0 : px_ret M = some .int := by unfold px_ret; rw [h1]; rfl
      exact W.iret hx hb (hrt.trans hr0) (fun t ht hWm => ⟨rfl, by rw [ht]; exact hW'.1, hW'.2.F ht⟩) hW'.2.2.2 h2
    · have hr0 : px_ret M = some .boolean := by unfold px_ret; rw [h1]; rfl
      exact W.zret hx hb (hrt.trans hr0) (by rcases h3 with rfl | rfl <;> decide) (fun t ht hWm => ⟨rfl, by rw [ht]; exact hW'.1, hW'.2.F ht⟩) hW'.2.2.2 h2
    · have hr0 : px_ret M = some .long := by unfold px_ret; rw [h1]; rfl
      exact W.lret hx hb (hrt.trans hr0) (fun t ht hWm => ⟨rfl, by rw [ht]; exact hW'.1, hW'.2.F ht⟩) hW'.2.2.2 h2)
  rw [Nat.sub_self, Nat.sub_self] at key
  exact key
section PX5
variable {tb : Nat → Option px_M} {D : va_G} {cI cZ B0 b L n0 ss0 : Nat} {xs : Nat → Int32} {M : px_M} {p : Program} {l : Launch} {e : Env} {R : Room} {s : State} {m : MethodId} {args : Array Value} {below : List Frame} {meth : Method} {c : Code} {H : Heap} {locs : List Loc} {Q : State → Prop} {ls : Array Slot}
theorem px_take {st : List Value} {n : Nat} {B0 b : Nat} : st.map (px_v B0 b) = ((st.take n).reverse.map (px_v B0 b)).reverse ++ (st.drop n).map (px_v B0 b) := by
  rw [List.map_reverse, List.reverse_reverse, ← List.map_append, List.take_append_drop]
/-- a call -/
theorem px_snd_call (hT : ∀ j M, tb j = some M → px_okM tb M) {n : Nat} (ih : px_Snd tb L xs n) {f : px_F} {h h1 : px_H} {j : Nat} {as st' : List Value} {M' : px_M} {r : Option Value} (C : px_C tb D cI cZ B0 b L n0 xs M p R s m args meth c) (hs : px_nx M L xs f h = some (.inr (.inr (j, as, st')))) (hM : tb j = some M') (hok : px_ok M M' as = true) (hr : px_run tb L xs n M' (0, px_ent as (px_ml M'), []) h = some (r, h1))
    (hW : px_Wd D cI cZ B0 s h H locs) (hl : px_L B0 b f.2.1 ls (px_ml M)) (hn : n0 ≤ h.1.length) (hz : ss0 ≤ px_ss h.1) (hRc : h1.1.length ≤ n0 + R.cells) (hRs : px_ss h1.1 ≤ ss0 + R.slots)
    (k : ∀ (H' : Heap) (locs' : List Loc), px_Wd D cI cZ B0 s h1 H' locs' → W p l e R s m args below meth c H' locs' (h1.1.length - n0) (px_ss h1.1 - ss0) Q (F0 m (f.1 + 3) ls ((r.toList ++ st').map (px_v B0 b)))) :
    W p l e R s m args below meth c H locs (h.1.length - n0) (px_ss h.1 - ss0) Q (F0 m f.1 ls (f.2.2.map (px_v B0 b))) := by
  have hMok := hT j M' hM
  unfold px_ok at hok
  simp only [Bool.and_eq_true] at hok
  obtain ⟨⟨o1, o2⟩, o3⟩ := hok
  have o1 := Nat.le_of_ble_eq_true o1
  have o2 := Nat.le_of_ble_eq_true o2
  have o3 := Nat.le_of_ble_eq_true o3
  have hMet := px_met ih l D cI cZ B0 b hMok hr o3
  have hgr := px_gr_run n hr
  have hfr : px_fr M ≤ R.frames := C.2.2.2.2.2.2.2.2.1
  have hlc : px_lc M ≤ R.locals := C.2.2.2.2.2.2.2.2.2.1
  have hs0 : s.heap.size = B0 + n0 := C.2.2.2.2.2.2.2.2.2.2.1
  have hK : va_K D vwCl [(cI, .int), (cZ, .boolean)] s := C.2.2.2.2.2.2.1
  have hnw := C.2.2.2.2.2.1
  have hts := C.2.2.2.2.1
  obtain ⟨-, hcls, -, hcode, hini, hmh, -, -⟩ := hMok
  have kk : ∀ (H1 : Heap) (locs1 : List Loc), px_Wd D cI cZ B0 s h1 H1 locs1 → W p l e R s m args below meth c H1 locs1 (h.1.length - n0 + (h1.1.length - h.1.length)) (px_ss h.1 - ss0 + (px_ss h1.1 - px_ss h.1)) Q (F0 m (f.1 + 3) ls ((r.map (px_v B0 b)).toList ++ st'.map (px_v B0 b))) := by
    intro H1 locs1 hW1
    have h9 := k H1 locs1 hW1
    rw [show h.1.length - n0 + (h1.1.length - h.1.length) = h1.1.length - n0 by have := hgr.1; omega, show px_ss h.1 - ss0 + (px_ss h1.1 - px_ss h.1) = px_ss h1.1 - ss0 by have := hgr.2; omega]
    rw [List.map_append] at h9
    rw [show (r.map (px_v B0 b)).toList = r.toList.map (px_v B0 b) by cases r <;> rfl]
    exact h9
  have hcap : h.1.length - n0 + (h1.1.length - h.1.length) ≤ R.cells ∧ px_ss h.1 - ss0 + (px_ss h1.1 - px_ss h.1) ≤ R.slots := by have := hgr.1; have := hgr.2; omega
  refine px_size hW hs0 hn fun hsz => ?_
  have hPre : ∀ U : State, U.heap = H → s.WarmedH U.vm → px_Pc D cI cZ B0 b as h (as.map (px_v B0 b)).toArray U := fun U hU hWm => ⟨rfl, by rw [hU]; exact hsz, by rw [hU]; exact hW.1, va_K.moved hWm.alike hK, fun w hw => px_nw_warm hWm hw (hnw w hw)⟩
  have hRoom : px_fr M' + 1 ≤ R.frames ∧ 8 + (px_ml M' + 11) + px_lc M' ≤ R.locals := by omega
  unfold px_nx at hs
  split at hs
  · cases hs
  · rename_i i hi
    obtain ⟨hd, hB, hq⟩ := px_row C hi
    obtain ⟨op, len, imm, a, b'⟩ := i
    split at hs
    · split at hs
      · split at hs
        · cases hs
        · split at hs <;> cases hs
        · cases hs
      · cases hs
    · split at hs
      · split at hs <;> cases hs
      · cases hs
    · split at hs
      · split at hs <;> cases hs
      · cases hs
    · rename_i idx eo
      dsimp only at eo
      subst eo
      cases e : (Nat.ble b' f.2.2.length && Nat.ble (px_cs (f.2.2.drop b')) 8 && px_rcv h.1 imm (f.2.2.take b').reverse) with
      | false => rw [e] at hs; cases hs
      | true =>
        rw [e] at hs
        cases hs
        simp only [Bool.and_eq_true] at e
        obtain ⟨⟨e1, e2⟩, e3⟩ := e
        have e2 := Nat.le_of_ble_eq_true e2
        obtain ⟨M2, hM2, eimm, h4, hb1, hnp, hinst, hsel, hlink⟩ : px_kV tb (px_oc M) idx imm a b' := hq _ rfl
        cases hM2.symm.trans hM
        subst eimm
        unfold px_rcv at e3
        split at e3
        · rename_i cc kk' as' eas1 eas
          cases eas1
          split at e3
          · rename_i q n' rf hc
            have e3 := Nat.eq_of_beq_eq_true e3
            subst e3
            rw [px_take (n := b')]
            have hlen2 : (as'.map (px_v B0 b)).length = b' - 1 := by
              have h5 := congrArg List.length eas
              rw [List.length_reverse, List.length_take, List.length_cons] at h5
              have h6 := Nat.le_of_ble_eq_true e1
              rw [List.length_map]
              omega
            have hstk : (((f.2.2.take b').reverse.map (px_v B0 b)).reverse ++ (f.2.2.drop b').map (px_v B0 b)) = (as'.map (px_v B0 b)).reverse ++ Value.ref (B0 + kk') :: (f.2.2.drop b').map (px_v B0 b) := by
              rw [eas]; simp [px_v]
            have hat := px_w_at (B0 := B0) (cI := cI) (cZ := cZ) hc
            rw [px_e_obj h4] at hat
            have hPV : PreV s H (px_cn (px_oc M')) (B0 + kk') (px_Pc D cI cZ B0 b (f.2.2.take b').reverse h) (as'.map (px_v B0 b)) := ⟨px_blind D cI cZ B0 b _ h, va_recv hK hW.1 (px_cl h4) hat, fun U hU hWm => by
              have h9 := hPre U hU hWm
              rw [eas] at h9 ⊢
              exact h9⟩
            rcases hlink with hlink | ⟨host, hlink⟩
            · exact px_back (va_runV ⟨C.1, C.2.1, C.2.2.1, C.2.2.2.1, hts⟩ hMet ⟨callB_of (b' - 1) hts (px_good hcode) rfl rfl rfl (hts _ hini) (hts _ hlink) ⟨hmh.1, hmh.2, hnp⟩ hRoom, hts _ hinst, hts _ hsel⟩ hPV rfl hlen2 hl.2.1 hstk (lv_room (by rw [px_cs_map]; exact e2)) hd hcap) hW.2 kk
            · exact px_back (va_runVN ⟨C.1, C.2.1, C.2.2.1, C.2.2.2.1, hts⟩ hMet ⟨va_cnB (b' - 1) hts (px_good hcode) rfl rfl rfl (hnw _ hlink) (hts _ hini) ⟨hmh.1, hmh.2, hnp⟩ hRoom, hts _ hinst, hts _ hsel⟩ hPV rfl hlen2 hl.2.1 hstk (lv_room (by rw [px_cs_map]; exact e2)) hd hcap) hW.2 kk
          · cases e3
        · cases e3
    · rename_i idx eo
      dsimp only at eo
      subst eo
      cases e : Nat.ble 1001 a with
      | true =>
        rw [e] at hs
        simp only [cond_true] at hs
        cases e2 : Nat.ble (px_cs f.2.2) 16 with
        | false => rw [e2] at hs; cases hs
        | true =>
          rw [e2] at hs
          simp only [cond_true] at hs
          obtain ⟨q, e3, e4⟩ := Option.map_eq_some_iff.mp hs
          cases e4
      | false =>
        rw [e] at hs
        simp only [cond_false] at hs
        cases e2 : (Nat.ble b' f.2.2.length && Nat.ble (px_cs (f.2.2.drop b')) 8) with
        | false => rw [e2] at hs; cases hs
        | true =>
          rw [e2] at hs
          cases hs
          simp only [Bool.and_eq_true] at e2
          obtain ⟨e1, e2⟩ := e2
          have e2 := Nat.le_of_ble_eq_true e2
          have e1 := Nat.le_of_ble_eq_true e1
          have hne : ¬ 1001 ≤ j := fun q => by rw [Nat.ble_eq.mpr q] at e; cases e
          have hkS : px_kS tb (px_oc M) idx j b' := hq _ rfl
          unfold px_kS at hkS
          rw [if_neg hne] at hkS
          obtain ⟨M2, hM2, hnp, hstat, hlink⟩ := hkS
          cases hM2.symm.trans hM
          rw [px_take (n := b')]
          have hlen2 : ((f.2.2.take b').reverse.map (px_v B0 b)).length = b' := by
            rw [List.length_map, List.length_reverse, List.length_take]
            omega
          have hPS : PreS s H (px_Pc D cI cZ B0 b (f.2.2.take b').reverse h) ((f.2.2.take b').reverse.map (px_v B0 b)) := ⟨px_blind D cI cZ B0 b _ h, hPre⟩
          rcases hlink with hlink | ⟨host, hlink⟩
          · exact px_back (va_runS ⟨C.1, C.2.1, C.2.2.1, C.2.2.2.1, hts⟩ hMet ⟨callB_of b' hts (px_good hcode) rfl rfl rfl (hts _ hini) (hts _ hlink) ⟨hmh.1, hmh.2, hnp⟩ hRoom, hts _ hstat⟩ hPS rfl hlen2 hl.2.1 rfl (lv_room (by rw [px_cs_map]; exact e2)) hd hcap) hW.2 kk
          · exact px_back (va_runSN ⟨C.1, C.2.1, C.2.2.1, C.2.2.2.1, hts⟩ hMet ⟨va_cnB b' hts (px_good hcode) rfl rfl rfl (hnw _ hlink) (hts _ hini) ⟨hmh.1, hmh.2, hnp⟩ hRoom, hts _ hstat, trivial⟩ hPS rfl hlen2 hl.2.1 rfl (lv_room (by rw [px_cs_map]; exact e2)) hd hcap) hW.2 kk
    · rename_i idx eo
      dsimp only at eo
      subst eo
      cases e : Nat.beq a 1000 with
      | true =>
        rw [e] at hs
        simp only [cond_true] at hs
        split at hs
        · rename_i r hr
          cases e2 : Nat.ble (px_cs r) 8 <;> (rw [e2] at hs; cases hs)
        · cases hs
      | false =>
        rw [e] at hs
        simp only [cond_false] at hs
        cases e2 : (Nat.ble b' f.2.2.length && Nat.ble (px_cs (f.2.2.drop b')) 8 && px_hd (f.2.2.take b').reverse) with
        | false => rw [e2] at hs; cases hs
        | true =>
          rw [e2] at hs
          cases hs
          simp only [Bool.and_eq_true] at e2
          obtain ⟨⟨e1, e2⟩, e3⟩ := e2
          have e2 := Nat.le_of_ble_eq_true e2
          have e1 := Nat.le_of_ble_eq_true e1
          have hne : ¬ j = 1000 := fun q => by rw [q] at e; cases e
          have hkI : px_kI tb (px_oc M) idx j b' := hq _ rfl
          unfold px_kI at hkI
          rw [if_neg hne] at hkI
          obtain ⟨M2, hM2, hrt0, hb1, hnp, hnm, hinst, hlink⟩ := hkI
          cases hM2.symm.trans hM
          have hret : px_ret M' = none := by unfold px_ret; rw [hrt0]; rfl
          unfold px_hd at e3
          split at e3
          case h_2 => cases e3
          rename_i kr vs hrev
          have hv0 : px_v B0 b (.ref kr) = .ref (B0 + kr) := rfl
          generalize B0 + kr = kk' at hv0
          have hlen2 : (vs.map (px_v B0 b)).length = b' - 1 := by
            have h5 := congrArg List.length hrev
            rw [List.length_reverse, List.length_take, List.length_cons] at h5
            rw [List.length_map]
            omega
          rw [px_take (n := b')]
          have hstk : (((f.2.2.take b').reverse.map (px_v B0 b)).reverse ++ (f.2.2.drop b').map (px_v B0 b)) = (vs.map (px_v B0 b)).reverse ++ Value.ref kk' :: (f.2.2.drop b').map (px_v B0 b) := by
            rw [hrev]; simp [hv0]
          have hPS : PreS s H (px_Pc D cI cZ B0 b (f.2.2.take b').reverse h) (.ref kk' :: vs.map (px_v B0 b)) := ⟨px_blind D cI cZ B0 b _ h, fun U hU hWm => by
            have h9 := hPre U hU hWm
            rw [hrev] at h9 ⊢
            rw [List.map_cons, hv0] at h9
            exact h9⟩
          rcases hlink with hlink | ⟨host, hlink⟩
          · exact px_back (va_runI ⟨C.1, C.2.1, C.2.2.1, C.2.2.2.1, hts⟩ hMet ⟨callB_of (b' - 1) hts (px_good hcode) (by rw [← hret]) rfl rfl (hts _ hini) (hts _ hlink) ⟨hmh.1, hmh.2, hnp⟩ hRoom, hnm, hts _ hinst⟩ hPS rfl hlen2 hl.2.1 hstk (lv_room (by rw [px_cs_map]; exact e2)) hd hcap) hW.2 kk
          · exact px_back (va_runIN ⟨C.1, C.2.1, C.2.2.1, C.2.2.2.1, hts⟩ hMet ⟨va_cnB (b' - 1) hts (px_good hcode) (by rw [← hret]) rfl rfl (hnw _ hlink) (hts _ hini) ⟨hmh.1, hmh.2, hnp⟩ hRoom, hnm, hts _ hinst⟩ hPS rfl hlen2 hl.2.1 hstk (lv_room (by rw [px_cs_map]; exact e2)) hd hcap) hW.2 kk
    · obtain ⟨q, e3, e4⟩ := Option.map_eq_some_iff.mp hs
      cases e4
end PX5
theorem px_snd {tb : Nat → Option px_M} (hT : ∀ j M, tb j = some M → px_okM tb M) (L : Nat) (xs : Nat → Int32) : ∀ n : Nat, px_Snd tb L xs n := by
  intro n
  induction n with
  | zero => intro D cI cZ B0 b n0 ss0 M p l e R s m args below meth c H locs Q ls f h h' r hr; cases hr
  | succ n ih =>
    intro D cI cZ B0 b n0 ss0 M p l e R s m args below meth c H locs Q ls f h h' r hr C hW hl hn hz hRc hRs k
    unfold px_run at hr
    split at hr
    · cases hr
    · rename_i f2 h2 e1
      have g1 := px_gr_nx e1
      have g2 := px_gr_run n hr
      exact px_snd_nx C e1 hW hl hn hz (Nat.le_trans g2.1 hRc) (Nat.le_trans g2.2 hRs) fun H' locs' ls' hW' hl' => ih hr C hW' hl' (Nat.le_trans hn g1.1) (Nat.le_trans hz g1.2) hRc hRs k
    · rename_i r2 e1
      cases hr
      obtain ⟨h1, h2⟩ := px_nx_re C.2.2.2.2.2.2.2.2.2.2.2.2 e1
      rw [h2]
      exact k f.1 H locs ls hW h1
    · rename_i j as st e1
      split at hr
      · cases hr
      · rename_i M' e2
        cases e3 : px_ok M M' as with
        | false => rw [e3] at hr; cases hr
        | true =>
          rw [e3] at hr
          simp only [cond_true] at hr
          split at hr
          · cases hr
          · rename_i r2 h2 e4
            have g1 := px_gr_run n e4
            have g2 := px_gr_run n hr
            exact px_snd_call hT ih C e1 e2 e3 e4 hW hl hn hz (Nat.le_trans g2.1 hRc) (Nat.le_trans g2.2 hRs) fun H' locs' hW' => ih (f := (f.1 + 3, f.2.1, r2.toList ++ st)) hr C hW' hl (Nat.le_trans hn g1.1) (Nat.le_trans hz g1.2) hRc hRs k
