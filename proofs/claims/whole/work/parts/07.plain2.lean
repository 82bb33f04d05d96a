/-! every plain instruction -/
section PX3
variable {tb : Nat → Option px_M} {D : va_G} {cI cZ B0 b L n0 ss0 : Nat} {xs : Nat → Int32} {M : px_M} {p : Program} {l : Launch} {e : Env} {R : Room} {s : State} {m : MethodId} {args : Array Value} {below : List Frame} {meth : Method} {c : Code} {H : Heap} {locs : List Loc} {Q : State → Prop} {ls : Array Slot}
theorem px_arrW : Cond.arrayClass .int ∈ px_TB ∧ Cond.arrayClass .boolean ∈ px_TB := ⟨by decide +kernel, by decide +kernel⟩
theorem px_ss_app (a b : px_S) : px_ss (a ++ b) = px_ss a + px_ss b := by simp [px_ss]
set_option maxHeartbeats 4000000 in
theorem px_snd_st {i : px_I} {pc : Nat} {loc : List (Option Value)} {st : List Value} {f' : px_F} {h h' : px_H} (C : px_C tb D cI cZ B0 b L n0 xs M p R s m args meth c) (hdg : decode (px_cc M) pc = .ok (i.1, px_ln i)) (hB : px_okB M pc i = true) (hq : ∀ q, px_key i = some q → px_okK tb (px_oc M) q)
    (hs : px_st (px_sc M) L xs i pc loc st h = some (f', h')) (hW : px_Wd D cI cZ B0 s h H locs) (hl : px_L B0 b loc ls (px_ml M)) (hn : n0 ≤ h.1.length) (hz : ss0 ≤ px_ss h.1) (hRc : h'.1.length ≤ n0 + R.cells) (hRs : px_ss h'.1 ≤ ss0 + R.slots)
    (k : ∀ (H' : Heap) (locs' : List Loc) (ls' : Array Slot), px_Wd D cI cZ B0 s h' H' locs' → px_L B0 b f'.2.1 ls' (px_ml M) → W p l e R s m args below meth c H' locs' (h'.1.length - n0) (px_ss h'.1 - ss0) Q (F0 m f'.1 ls' (f'.2.2.map (px_v B0 b)))) :
    W p l e R s m args below meth c H locs (h.1.length - n0) (px_ss h.1 - ss0) Q (F0 m pc ls (st.map (px_v B0 b))) := by
  have hx := C.1
  have hb := C.2.1
  have hown := C.2.2.2.1
  have hts := C.2.2.2.2.1
  obtain ⟨op, len, imm, a, b'⟩ := i
  cases op <;> first | (exfalso; cases hs; done) | skip
  case iconst n =>
    cases hs
    have e1 := of_decide_eq_true hB
    dsimp only at e1
    subst e1
    exact lv_iconst hx hb hdg rfl (k H locs ls hW hl)
  case bipush n =>
    cases hs
    have e1 := of_decide_eq_true hB
    dsimp only at e1
    subst e1
    exact lv_bipush hx hb hdg rfl (k H locs ls hW hl)
  case sipush n =>
    cases hs
    have e1 := of_decide_eq_true hB
    dsimp only at e1
    subst e1
    exact lv_sipush hx hb hdg rfl (k H locs ls hW hl)
  case lconst n =>
    cases hs
    have e1 := of_decide_eq_true hB
    dsimp only at e1
    subst e1
    exact lv_lconst hx hb hdg rfl (k H locs ls hW hl)
  case ldc n =>
    cases hs
    obtain ⟨v, e1, hw⟩ := hq _ rfl
    dsimp only at e1
    subst e1
    exact lv_ldc hx hb hown (hts _ hw) hdg (k H locs ls hW hl)
  case ldc_w n =>
    cases hs
    obtain ⟨v, e1, hw⟩ := hq _ rfl
    dsimp only at e1
    subst e1
    exact lv_ldcw hx hb hown (hts _ hw) hdg (k H locs ls hW hl)
  case ldc2_w n =>
    cases hs
    obtain ⟨v, e1, hw⟩ := hq _ rfl
    dsimp only at e1
    subst e1
    exact lv_ldc2 hx hb hown (hts _ hw) hdg (k H locs ls hW hl)
  case iload n =>
    have e1 := Nat.eq_of_beq_eq_true hB
    dsimp only at e1
    subst e1
    simp only [px_st] at hs
    split at hs
    · rename_i x hg
      cases hs
      exact lv_iload hx hb hdg (hl.2.2.2 _ _ hg) (k H locs ls hW hl)
    · cases hs
  case lload n =>
    have e1 := Nat.eq_of_beq_eq_true hB
    dsimp only at e1
    subst e1
    simp only [px_st] at hs
    split at hs
    · rename_i x hg
      cases hs
      exact lv_lload hx hb hdg (hl.2.2.2 _ _ hg) (k H locs ls hW hl)
    · cases hs
  case iload_n n =>
    have e1 := Nat.eq_of_beq_eq_true hB
    dsimp only at e1
    subst e1
    simp only [px_st] at hs
    split at hs
    · rename_i x hg
      cases hs
      exact lv_iload_n hx hb hdg rfl (hl.2.2.2 _ _ hg) (k H locs ls hW hl)
    · cases hs
  case lload_n n =>
    have e1 := Nat.eq_of_beq_eq_true hB
    dsimp only at e1
    subst e1
    simp only [px_st] at hs
    split at hs
    · rename_i x hg
      cases hs
      exact lv_lload_n hx hb hdg rfl (hl.2.2.2 _ _ hg) (k H locs ls hW hl)
    · cases hs
  case aload_n n =>
    have e1 := Nat.eq_of_beq_eq_true hB
    dsimp only at e1
    subst e1
    simp only [px_st] at hs
    split at hs
    · rename_i x hg
      cases hs
      exact lv_aload_n hx hb hdg rfl (hl.2.2.2 _ _ hg) (k H locs ls hW hl)
    · rename_i x hg
      cases hs
      exact lv_aload_n hx hb hdg rfl (hl.2.2.2 _ _ hg) (k H locs ls hW hl)
    · cases hs
  case istore n =>
    have e1 := Nat.eq_of_beq_eq_true hB
    dsimp only at e1
    subst e1
    simp only [px_st] at hs
    split at hs
    · rename_i x r
      obtain ⟨loc', hp, e2⟩ := Option.map_eq_some_iff.mp hs
      cases e2
      have hlt := px_put1_lt hp
      rw [hl.1] at hlt
      exact lv_istore hx hb hdg hl.has hlt rfl fun ls' h9 => k H locs ls' hW (px_L1 hl hp h9)
    · cases hs
  case istore_n n =>
    have e1 := Nat.eq_of_beq_eq_true hB
    dsimp only at e1
    subst e1
    simp only [px_st] at hs
    split at hs
    · rename_i x r
      obtain ⟨loc', hp, e2⟩ := Option.map_eq_some_iff.mp hs
      cases e2
      have hlt := px_put1_lt hp
      rw [hl.1] at hlt
      exact lv_istore_n hx hb hdg rfl hl.has hlt rfl fun ls' h9 => k H locs ls' hW (px_L1 hl hp h9)
    · cases hs
  case lstore n =>
    have e1 := Nat.eq_of_beq_eq_true hB
    dsimp only at e1
    subst e1
    simp only [px_st] at hs
    split at hs
    · rename_i x r
      obtain ⟨loc', hp, e2⟩ := Option.map_eq_some_iff.mp hs
      cases e2
      have hlt := px_put2_lt hp
      rw [hl.1] at hlt
      exact lv_lstore hx hb hdg hl.has hlt rfl fun ls' h9 => k H locs ls' hW (px_L2 hl hp h9)
    · cases hs
  case lstore_n n =>
    have e1 := Nat.eq_of_beq_eq_true hB
    dsimp only at e1
    subst e1
    simp only [px_st] at hs
    split at hs
    · rename_i x r
      obtain ⟨loc', hp, e2⟩ := Option.map_eq_some_iff.mp hs
      cases e2
      have hlt := px_put2_lt hp
      rw [hl.1] at hlt
      exact lv_lstore_n hx hb hdg rfl hl.has hlt rfl fun ls' h9 => k H locs ls' hW (px_L2 hl hp h9)
    · cases hs
  case astore_n n =>
    have e1 := Nat.eq_of_beq_eq_true hB
    dsimp only at e1
    subst e1
    simp only [px_st] at hs
    split at hs
    · rename_i x r
      obtain ⟨loc', hp, e2⟩ := Option.map_eq_some_iff.mp hs
      cases e2
      have hlt := px_put1_lt hp
      rw [hl.1] at hlt
      exact lv_astore_n hx hb hdg rfl hl.has hlt rfl fun ls' h9 => k H locs ls' hW (px_L1 hl hp h9)
    · cases hs
  case iinc n o =>
    obtain ⟨e0, e3⟩ := (Bool.and_eq_true _ _).mp hB
    have e1 := Nat.eq_of_beq_eq_true e0
    have e33 := of_decide_eq_true e3
    dsimp only at e1 e33
    subst e1; subst e33
    simp only [px_st] at hs
    split at hs
    · rename_i x y hg e4
      cases e4
      obtain ⟨loc', hp, e2⟩ := Option.map_eq_some_iff.mp hs
      cases e2
      have hlt := px_put1_lt hp
      rw [hl.1] at hlt
      obtain ⟨j, hj⟩ := List.mem_iff_getElem?.mp (px_al_mem (B0 := B0) (b := b) hg)
      exact lv_iinc hx hb hdg hl.has hj rfl hlt rfl fun ls' h9 => k H locs ls' hW (px_L1 hl hp h9)
    · cases hs
  case iadd =>
    simp only [px_st, px_bin] at hs
    split at hs
    · cases hs
      exact lv_iadd hx hb hdg (k H locs ls hW hl)
    · cases hs
  case isub =>
    simp only [px_st, px_bin] at hs
    split at hs
    · cases hs
      exact lv_isub hx hb hdg (k H locs ls hW hl)
    · cases hs
  case imul =>
    simp only [px_st, px_bin] at hs
    split at hs
    · cases hs
      exact lv_imul hx hb hdg (k H locs ls hW hl)
    · cases hs
  case iand =>
    simp only [px_st, px_bin] at hs
    split at hs
    · cases hs
      exact lv_iand hx hb hdg (k H locs ls hW hl)
    · cases hs
  case ior =>
    simp only [px_st, px_bin] at hs
    split at hs
    · cases hs
      exact lv_ior hx hb hdg (k H locs ls hW hl)
    · cases hs
  case ixor =>
    simp only [px_st, px_bin] at hs
    split at hs
    · cases hs
      exact lv_ixor hx hb hdg (k H locs ls hW hl)
    · cases hs
  case ishl =>
    simp only [px_st, px_bin] at hs
    split at hs
    · cases hs
      exact lv_ishl hx hb hdg (k H locs ls hW hl)
    · cases hs
  case ishr =>
    simp only [px_st, px_bin] at hs
    split at hs
    · cases hs
      exact lv_ishr hx hb hdg (k H locs ls hW hl)
    · cases hs
  case iushr =>
    simp only [px_st, px_bin] at hs
    split at hs
    · cases hs
      exact lv_iushr hx hb hdg rfl (k H locs ls hW hl)
    · cases hs
  case ladd =>
    simp only [px_st, px_binL] at hs
    split at hs
    · cases hs
      exact lv_ladd hx hb hdg (k H locs ls hW hl)
    · cases hs
  case lmul =>
    simp only [px_st, px_binL] at hs
    split at hs
    · cases hs
      exact lv_lmul hx hb hdg (k H locs ls hW hl)
    · cases hs
  case idiv =>
    simp only [px_st] at hs
    split at hs
    · split at hs
      · cases hs
      · rename_i hne
        cases hs
        exact lv_idiv hx hb hdg hne (k H locs ls hW hl)
    · cases hs
  case irem =>
    simp only [px_st] at hs
    split at hs
    · split at hs
      · cases hs
      · rename_i hne
        cases hs
        exact lv_irem hx hb hdg hne (k H locs ls hW hl)
    · cases hs
  case ldiv =>
    simp only [px_st] at hs
    split at hs
    · split at hs
      · cases hs
      · rename_i hne
        cases hs
        exact lv_ldiv hx hb hdg hne (k H locs ls hW hl)
    · cases hs
  case lrem =>
    simp only [px_st] at hs
    split at hs
    · split at hs
      · cases hs
      · rename_i hne
        cases hs
        exact lv_lrem hx hb hdg hne (k H locs ls hW hl)
    · cases hs
  case lcmp =>
    simp only [px_st] at hs
    split at hs
    · cases hs
      exact W.lcmp hx hb hdg (k H locs ls hW hl)
    · cases hs
  case i2l =>
    simp only [px_st] at hs
    split at hs
    · cases hs
      exact lv_i2l hx hb hdg rfl (k H locs ls hW hl)
    · cases hs
  case dup =>
    simp only [px_st] at hs
    split at hs
    · cases hs
      exact lv_dup hx hb hdg rfl (k H locs ls hW hl)
    · cases hs
      exact lv_dup hx hb hdg rfl (k H locs ls hW hl)
    · cases hs
  case dup2 =>
    simp only [px_st] at hs
    split at hs
    · cases hs
      exact lv_dup2_11 hx hb hdg rfl rfl (k H locs ls hW hl)
    · cases hs
  case pop =>
    simp only [px_st] at hs
    split at hs
    · cases hs
      exact lv_pop hx hb hdg rfl (k H locs ls hW hl)
    · cases hs
  case goto o =>
    cases hs
    exact lv_goto hx hb hdg (of_decide_eq_true hB) (k H locs ls hW hl)
  case ifCond cd o =>
    have ht := of_decide_eq_true hB
    dsimp only at ht
    cases cd
    · simp only [px_st] at hs
      split at hs
      · refine lv_if_eq hx hb hdg ht (fun q => ?_) (fun q => ?_)
        · split at hs
          · first | (cases hs; exact k H locs ls hW hl) | (exfalso; simp_all; done)
          · first | (exfalso; simp_all; done) | (cases hs; exact k H locs ls hW hl)
        · split at hs
          · first | (exfalso; simp_all; done) | (cases hs; exact k H locs ls hW hl)
          · first | (exfalso; simp_all; done) | (cases hs; exact k H locs ls hW hl)
      · cases hs
    · simp only [px_st] at hs
      split at hs
      · refine lv_if_ne hx hb hdg ht (fun q => ?_) (fun q => ?_)
        · split at hs
          · first | (cases hs; exact k H locs ls hW hl) | (exfalso; simp_all; done)
          · first | (exfalso; simp_all; done) | (cases hs; exact k H locs ls hW hl)
        · split at hs
          · first | (exfalso; simp_all; done) | (cases hs; exact k H locs ls hW hl)
          · first | (exfalso; simp_all; done) | (cases hs; exact k H locs ls hW hl)
      · cases hs
    · simp only [px_st] at hs
      split at hs
      · refine lv_if_lt hx hb hdg ht (fun q => ?_) (fun q => ?_)
        · split at hs
          · first | (cases hs; exact k H locs ls hW hl) | (exfalso; simp_all; done)
          · first | (exfalso; simp_all; done) | (cases hs; exact k H locs ls hW hl)
        · split at hs
          · first | (exfalso; simp_all; done) | (cases hs; exact k H locs ls hW hl)
          · first | (exfalso; simp_all; done) | (cases hs; exact k H locs ls hW hl)
      · cases hs
    · simp only [px_st] at hs
      split at hs
      · refine lv_if_ge hx hb hdg ht (fun q => ?_) (fun q => ?_)
        · split at hs
          · first | (cases hs; exact k H locs ls hW hl) | (exfalso; simp_all; done)
          · first | (exfalso; simp_all; done) | (cases hs; exact k H locs ls hW hl)
        · split at hs
          · first | (exfalso; simp_all; done) | (cases hs; exact k H locs ls hW hl)
          · first | (exfalso; simp_all; done) | (cases hs; exact k H locs ls hW hl)
      · cases hs
    · simp only [px_st] at hs
      split at hs
      · refine lv_if_gt hx hb hdg ht (fun q => ?_) (fun q => ?_)
        · split at hs
          · first | (cases hs; exact k H locs ls hW hl) | (exfalso; simp_all; done)
          · first | (exfalso; simp_all; done) | (cases hs; exact k H locs ls hW hl)
        · split at hs
          · first | (exfalso; simp_all; done) | (cases hs; exact k H locs ls hW hl)
          · first | (exfalso; simp_all; done) | (cases hs; exact k H locs ls hW hl)
      · cases hs
    · simp only [px_st] at hs
      split at hs
      · refine lv_if_le hx hb hdg ht (fun q => ?_) (fun q => ?_)
        · split at hs
          · first | (cases hs; exact k H locs ls hW hl) | (exfalso; simp_all; done)
          · first | (exfalso; simp_all; done) | (cases hs; exact k H locs ls hW hl)
        · split at hs
          · first | (exfalso; simp_all; done) | (cases hs; exact k H locs ls hW hl)
          · first | (exfalso; simp_all; done) | (cases hs; exact k H locs ls hW hl)
      · cases hs
  case if_icmp cd o =>
    have ht := of_decide_eq_true hB
    dsimp only at ht
    cases cd
    · simp only [px_st] at hs
      split at hs
      · refine lv_icmp_eq hx hb hdg ht (fun q => ?_) (fun q => ?_)
        · split at hs
          · first | (cases hs; exact k H locs ls hW hl) | (exfalso; simp_all; done)
          · first | (exfalso; simp_all; done) | (cases hs; exact k H locs ls hW hl)
        · split at hs
          · first | (exfalso; simp_all; done) | (cases hs; exact k H locs ls hW hl)
          · first | (exfalso; simp_all; done) | (cases hs; exact k H locs ls hW hl)
      · cases hs
    · simp only [px_st] at hs
      split at hs
      · refine lv_icmp_ne hx hb hdg ht (fun q => ?_) (fun q => ?_)
        · split at hs
          · first | (cases hs; exact k H locs ls hW hl) | (exfalso; simp_all; done)
          · first | (exfalso; simp_all; done) | (cases hs; exact k H locs ls hW hl)
        · split at hs
          · first | (exfalso; simp_all; done) | (cases hs; exact k H locs ls hW hl)
          · first | (exfalso; simp_all; done) | (cases hs; exact k H locs ls hW hl)
      · cases hs
    · simp only [px_st] at hs
      split at hs
      · refine lv_icmp_lt hx hb hdg ht (fun q => ?_) (fun q => ?_)
        · split at hs
          · first | (cases hs; exact k H locs ls hW hl) | (exfalso; simp_all; done)
          · first | (exfalso; simp_all; done) | (cases hs; exact k H locs ls hW hl)
        · split at hs
          · first | (exfalso; simp_all; done) | (cases hs; exact k H locs ls hW hl)
          · first | (exfalso; simp_all; done) | (cases hs; exact k H locs ls hW hl)
      · cases hs
    · simp only [px_st] at hs
      split at hs
      · refine lv_icmp_ge hx hb hdg ht (fun q => ?_) (fun q => ?_)
        · split at hs
          · first | (cases hs; exact k H locs ls hW hl) | (exfalso; simp_all; done)
          · first | (exfalso; simp_all; done) | (cases hs; exact k H locs ls hW hl)
        · split at hs
          · first | (exfalso; simp_all; done) | (cases hs; exact k H locs ls hW hl)
          · first | (exfalso; simp_all; done) | (cases hs; exact k H locs ls hW hl)
      · cases hs
    · simp only [px_st] at hs
      split at hs
      · refine lv_icmp_gt hx hb hdg ht (fun q => ?_) (fun q => ?_)
        · split at hs
          · first | (cases hs; exact k H locs ls hW hl) | (exfalso; simp_all; done)
          · first | (exfalso; simp_all; done) | (cases hs; exact k H locs ls hW hl)
        · split at hs
          · first | (exfalso; simp_all; done) | (cases hs; exact k H locs ls hW hl)
          · first | (exfalso; simp_all; done) | (cases hs; exact k H locs ls hW hl)
      · cases hs
    · simp only [px_st] at hs
      split at hs
      · refine lv_icmp_le hx hb hdg ht (fun q => ?_) (fun q => ?_)
        · split at hs
          · first | (cases hs; exact k H locs ls hW hl) | (exfalso; simp_all; done)
          · first | (exfalso; simp_all; done) | (cases hs; exact k H locs ls hW hl)
        · split at hs
          · first | (exfalso; simp_all; done) | (cases hs; exact k H locs ls hW hl)
          · first | (exfalso; simp_all; done) | (cases hs; exact k H locs ls hW hl)
      · cases hs
  case tableswitch df lo hi offs =>
    simp only [px_st] at hs
    split at hs
    · obtain ⟨t, e1, e2⟩ := Option.map_eq_some_iff.mp hs
      cases e2
      unfold px_sw at e1
      split at e1
      · rename_i hout
        split at e1
        · cases e1
          exact lv_tableOut hx hb hdg hout (by omega) (k H locs ls hW hl)
        · cases e1
      · rename_i hout
        split at e1
        · cases e1
        · rename_i o ho
          split at e1
          · cases e1
            exact lv_tableIn hx hb hdg (fun q => hout (Or.inl q)) (fun q => hout (Or.inr q)) ho (by omega) (k H locs ls hW hl)
          · cases e1
    · cases hs
  case getfield idx =>
    have hk : px_kF (px_oc M) idx imm a b' := hq _ rfl
    simp only [px_st] at hs
    split at hs
    · rename_i kk r
      split at hs
      · rename_i c' nn rf hc
        cases e1 : Nat.beq c' a with
        | false => rw [e1] at hs; cases hs
        | true =>
          rw [e1] at hs
          have e1 := Nat.eq_of_beq_eq_true e1
          subst e1
          simp only [cond_true] at hs
          have hfz := hk.2.2.2
          split at hs
          · split at hs
            · rename_i q hr
              cases hs
              refine px_getfield C hdg hk hW hc ?_ (k H locs ls hW hl)
              have h1 : px_fz c' b' = true := by
                rcases hfz with ⟨-, q⟩ | ⟨q, -⟩ | ⟨q, -⟩
                · exact q
                · cases q
                · cases q
              unfold px_fv
              rw [h1, hr]
              rfl
            · cases hs
          · rename_i hne
            cases hs
            refine px_getfield C hdg hk hW hc ?_ (k H locs ls hW hl)
            have h1 : px_fz c' b' = false := by
              rcases hfz with ⟨q, -⟩ | ⟨-, q⟩ | ⟨-, q⟩
              · exact absurd q hne
              · unfold px_fz; rw [q]
              · unfold px_fz; rw [q]
            unfold px_fv
            rw [h1]
            rfl
      · cases hs
    · cases hs
  case putfield idx =>
    have hk : px_kF (px_oc M) idx imm a b' := hq _ rfl
    have hBB := of_decide_eq_true hB
    simp only [px_st] at hs
    split at hs
    · rename_i v kk r
      split at hs
      · rename_i c' nn rf hc
        cases e1 : Nat.beq c' a with
        | false => rw [e1] at hs; cases hs
        | true =>
          rw [e1] at hs
          have e1 := Nat.eq_of_beq_eq_true e1
          subst e1
          simp only [cond_true] at hs
          split at hs
          · rename_i q
            split at hs
            · rename_i hrf
              cases hs
              have hlen : h.1.length = (h.1.set kk (c', nn, rf.set b' (some q))).length := by simp
              have hsum : px_ss h.1 = px_ss (h.1.set kk (c', nn, rf.set b' (some q))) := by
                unfold px_ss
                congr 1
                rw [List.map_set]
                apply List.ext_getElem?
                intro j
                rw [List.getElem?_set]
                by_cases hj : kk = j
                · subst hj
                  simp only [List.getElem?_map, hc, Option.map_some, List.length_map, (List.getElem?_eq_some_iff.mp hc).1, if_true]
                · simp [hj]
              rw [hlen, hsum]
              exact px_putref C hdg hk hW hc (hBB rfl).1 (hBB rfl).2 hrf fun H' l' hW' => k H' l' ls hW' hl
            · cases hs
          · rename_i bb x
            split at hs
            · cases hs
            · rename_i hnb
              cases hs
              exact px_putint C hdg hk hW hc (fun q => by cases q) (fun q => by
                cases q
                by_cases h0 : x = 0
                · exact Or.inl h0
                · by_cases h1 : x = 1
                  · exact Or.inr h1
                  · exact absurd ⟨rfl, h0, h1⟩ hnb) fun H' l' hW' => k H' l' ls hW' hl
          · cases hs
      · cases hs
    · cases hs
  case iaload =>
    simp only [px_st] at hs
    split at hs
    · split at hs
      · rename_i hc
        split at hs
        · cases hs
        · rename_i hin
          cases hs
          exact px_ald C hdg hW hc hin (k H locs ls hW hl)
      · cases hs
    · cases hsc : px_sc M with
      | false => rw [hsc] at hs; cases hs
      | true =>
        rw [hsc] at hs
        simp only [cond_true] at hs
        obtain ⟨hX, hbB⟩ := C.2.2.2.2.2.2.2.2.2.2.2.1 hsc
        have hs0 : s.heap.size = B0 + n0 := C.2.2.2.2.2.2.2.2.2.2.1
        split at hs
        · cases hs
        · rename_i hin
          cases hs
          exact va_sld hx hb hX (by omega) (Nat.not_le.mpr hbB) hW.2 hin hdg (k H locs ls hW hl)
    · cases hs
  case baload =>
    simp only [px_st] at hs
    split at hs
    · split at hs
      · rename_i hc
        split at hs
        · cases hs
        · rename_i hin
          cases hs
          exact px_zld C hdg hW hc hin (k H locs ls hW hl)
      · cases hs
    · cases hs
  case iastore =>
    simp only [px_st] at hs
    split at hs
    · split at hs
      · rename_i hc
        split at hs
        · cases hs
        · rename_i hin
          cases hs
          exact px_ast C hdg hW hc hin fun H' l' hW' => k H' l' ls hW' hl
      · cases hs
    · cases hs
  case bastore =>
    simp only [px_st] at hs
    split at hs
    · rename_i x j kk r
      split at hs
      · rename_i hc
        split at hs
        · cases hs
        · rename_i hin
          split at hs
          · cases hs
          · rename_i h01
            cases hs
            exact px_zst C hdg hW hc hin (by
              by_cases h0 : x = 0
              · exact Or.inl h0
              · by_cases h1 : x = 1
                · exact Or.inr h1
                · exact absurd ⟨h0, h1⟩ h01) fun H' l' hW' => k H' l' ls hW' hl
      · cases hs
    · cases hs
  case arraylength =>
    simp only [px_st] at hs
    split at hs
    · cases hsc : px_sc M with
      | false => rw [hsc] at hs; cases hs
      | true =>
        rw [hsc] at hs
        simp only [cond_true] at hs
        obtain ⟨hX, hbB⟩ := C.2.2.2.2.2.2.2.2.2.2.2.1 hsc
        have hs0 : s.heap.size = B0 + n0 := C.2.2.2.2.2.2.2.2.2.2.1
        cases hs
        exact va_slen hx hb hX (by omega) (Nat.not_le.mpr hbB) hW.2 hdg (k H locs ls hW hl)
    · cases hs
  case newarray t =>
    have hB := of_decide_eq_true hB
    dsimp only at hB
    simp only [px_st] at hs
    split at hs
    · split at hs
      · cases hs
      · rename_i n r hcond
        cases hs
        simp only [List.length_append, List.length_singleton, px_ss_app] at hRc hRs k
        have e9 : px_ss [(a, n.toNatClampNeg, ([] : List (Option Nat)))] = n.toNatClampNeg := by simp [px_ss]
        rw [e9] at hRs k
        refine px_newa C hdg hB px_arrW hW hn hz (by omega) (by omega) (fun q => hcond (Or.inl q)) (Nat.not_lt.mp fun q => hcond (Or.inr q)) fun H' hW' => ?_
        have h9 := k H' locs ls hW' hl
        rw [show h.1.length + 1 - n0 = h.1.length - n0 + 1 by omega, show px_ss h.1 + n.toNatClampNeg - ss0 = px_ss h.1 - ss0 + n.toNatClampNeg by omega] at h9
        exact h9
    · cases hs
  case new idx =>
    have hk : px_kN (px_oc M) idx a := hq _ rfl
    cases hs
    simp only [List.length_append, List.length_singleton, px_ss_app] at hRc hRs k
    have e9 : px_ss [(a, px_fN a, List.replicate (px_fN a) (none : Option Nat))] = px_fN a := by simp [px_ss]
    rw [e9] at hRs k
    refine px_new C hdg hk hW hn hz (by omega) (by omega) fun H' hW' => ?_
    have h9 := k H' locs ls hW' hl
    rw [show h.1.length + 1 - n0 = h.1.length - n0 + 1 by omega, show px_ss h.1 + px_fN a - ss0 = px_ss h.1 - ss0 + px_fN a by omega] at h9
    exact h9
end PX3
