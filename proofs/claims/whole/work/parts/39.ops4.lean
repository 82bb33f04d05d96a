section OPS4
variable {L : Nat} {xs : Nat → Int32} {σ : px_Sg}
theorem im1_0 (f h u g p m : Nat → Int32) (off : Nat) {k : Nat} (hk : k < 8) : ∀ n, n ≤ 8 → k < n → im1 f h u g p m off n (off + k) = h k
  | 0, _, h => absurd h (by omega)
  | n + 1, hn, hkn => by
    rw [im1]
    by_cases e : k = n
    · subst e
      simp [upd]
    · have ih := im1_0 f h u g p m off hk n (by omega) (by omega)
      simp [upd, e, show k ≠ 8 + n by omega, show k ≠ 16 + n by omega, show k ≠ 24 + n by omega, show k ≠ 32 + n by omega, show 8 + k ≠ n by omega, show 8 + k ≠ 16 + n by omega, show 8 + k ≠ 24 + n by omega, show 8 + k ≠ 32 + n by omega, show 16 + k ≠ n by omega, show 16 + k ≠ 8 + n by omega, show 16 + k ≠ 24 + n by omega, show 16 + k ≠ 32 + n by omega, show 24 + k ≠ n by omega, show 24 + k ≠ 8 + n by omega, show 24 + k ≠ 16 + n by omega, show 24 + k ≠ 32 + n by omega, show 32 + k ≠ n by omega, show 32 + k ≠ 8 + n by omega, show 32 + k ≠ 16 + n by omega, show 32 + k ≠ 24 + n by omega]
      exact ih
theorem im1_1 (f h u g p m : Nat → Int32) (off : Nat) {k : Nat} (hk : k < 8) : ∀ n, n ≤ 8 → k < n → im1 f h u g p m off n (off + (8 + k)) = u k
  | 0, _, h => absurd h (by omega)
  | n + 1, hn, hkn => by
    rw [im1]
    by_cases e : k = n
    · subst e
      simp [upd]
    · have ih := im1_1 f h u g p m off hk n (by omega) (by omega)
      simp [upd, e, show k ≠ 8 + n by omega, show k ≠ 16 + n by omega, show k ≠ 24 + n by omega, show k ≠ 32 + n by omega, show 8 + k ≠ n by omega, show 8 + k ≠ 16 + n by omega, show 8 + k ≠ 24 + n by omega, show 8 + k ≠ 32 + n by omega, show 16 + k ≠ n by omega, show 16 + k ≠ 8 + n by omega, show 16 + k ≠ 24 + n by omega, show 16 + k ≠ 32 + n by omega, show 24 + k ≠ n by omega, show 24 + k ≠ 8 + n by omega, show 24 + k ≠ 16 + n by omega, show 24 + k ≠ 32 + n by omega, show 32 + k ≠ n by omega, show 32 + k ≠ 8 + n by omega, show 32 + k ≠ 16 + n by omega, show 32 + k ≠ 24 + n by omega]
      exact ih
theorem im1_2 (f h u g p m : Nat → Int32) (off : Nat) {k : Nat} (hk : k < 8) : ∀ n, n ≤ 8 → k < n → im1 f h u g p m off n (off + (16 + k)) = g k
  | 0, _, h => absurd h (by omega)
  | n + 1, hn, hkn => by
    rw [im1]
    by_cases e : k = n
    · subst e
      simp [upd]
    · have ih := im1_2 f h u g p m off hk n (by omega) (by omega)
      simp [upd, e, show k ≠ 8 + n by omega, show k ≠ 16 + n by omega, show k ≠ 24 + n by omega, show k ≠ 32 + n by omega, show 8 + k ≠ n by omega, show 8 + k ≠ 16 + n by omega, show 8 + k ≠ 24 + n by omega, show 8 + k ≠ 32 + n by omega, show 16 + k ≠ n by omega, show 16 + k ≠ 8 + n by omega, show 16 + k ≠ 24 + n by omega, show 16 + k ≠ 32 + n by omega, show 24 + k ≠ n by omega, show 24 + k ≠ 8 + n by omega, show 24 + k ≠ 16 + n by omega, show 24 + k ≠ 32 + n by omega, show 32 + k ≠ n by omega, show 32 + k ≠ 8 + n by omega, show 32 + k ≠ 16 + n by omega, show 32 + k ≠ 24 + n by omega]
      exact ih
theorem im1_3 (f h u g p m : Nat → Int32) (off : Nat) {k : Nat} (hk : k < 8) : ∀ n, n ≤ 8 → k < n → im1 f h u g p m off n (off + (24 + k)) = p k
  | 0, _, h => absurd h (by omega)
  | n + 1, hn, hkn => by
    rw [im1]
    by_cases e : k = n
    · subst e
      simp [upd]
    · have ih := im1_3 f h u g p m off hk n (by omega) (by omega)
      simp [upd, e, show k ≠ 8 + n by omega, show k ≠ 16 + n by omega, show k ≠ 24 + n by omega, show k ≠ 32 + n by omega, show 8 + k ≠ n by omega, show 8 + k ≠ 16 + n by omega, show 8 + k ≠ 24 + n by omega, show 8 + k ≠ 32 + n by omega, show 16 + k ≠ n by omega, show 16 + k ≠ 8 + n by omega, show 16 + k ≠ 24 + n by omega, show 16 + k ≠ 32 + n by omega, show 24 + k ≠ n by omega, show 24 + k ≠ 8 + n by omega, show 24 + k ≠ 16 + n by omega, show 24 + k ≠ 32 + n by omega, show 32 + k ≠ n by omega, show 32 + k ≠ 8 + n by omega, show 32 + k ≠ 16 + n by omega, show 32 + k ≠ 24 + n by omega]
      exact ih
theorem im1_4 (f h u g p m : Nat → Int32) (off : Nat) {k : Nat} (hk : k < 8) : ∀ n, n ≤ 8 → k < n → im1 f h u g p m off n (off + (32 + k)) = m k
  | 0, _, h => absurd h (by omega)
  | n + 1, hn, hkn => by
    rw [im1]
    by_cases e : k = n
    · subst e
      simp [upd]
    · have ih := im1_4 f h u g p m off hk n (by omega) (by omega)
      simp [upd, e, show k ≠ 8 + n by omega, show k ≠ 16 + n by omega, show k ≠ 24 + n by omega, show k ≠ 32 + n by omega, show 8 + k ≠ n by omega, show 8 + k ≠ 16 + n by omega, show 8 + k ≠ 24 + n by omega, show 8 + k ≠ 32 + n by omega, show 16 + k ≠ n by omega, show 16 + k ≠ 8 + n by omega, show 16 + k ≠ 24 + n by omega, show 16 + k ≠ 32 + n by omega, show 24 + k ≠ n by omega, show 24 + k ≠ 8 + n by omega, show 24 + k ≠ 16 + n by omega, show 24 + k ≠ 32 + n by omega, show 32 + k ≠ n by omega, show 32 + k ≠ 8 + n by omega, show 32 + k ≠ 16 + n by omega, show 32 + k ≠ 24 + n by omega]
      exact ih
theorem im1_o (f h u g p m : Nat → Int32) (off : Nat) {x : Nat} (hx : x < off ∨ off + 40 ≤ x) : ∀ n, n ≤ 8 → im1 f h u g p m off n x = f x
  | 0, _ => rfl
  | n + 1, hn => by
    rw [im1, upd_ne _ (by omega), upd_ne _ (by omega), upd_ne _ (by omega), upd_ne _ (by omega), upd_ne _ (by omega)]
    exact im1_o f h u g p m off hx n (by omega)
theorem im2_v (f s : Nat → Int32) (off : Nat) : ∀ n x, im2 f s off n x = if off ≤ x ∧ x < off + n then s (x - off) else f x
  | 0, x => by rw [im2, if_neg (by omega)]
  | n + 1, x => by
    rw [im2]
    by_cases e : x = off + n
    · subst e; rw [upd_at, if_pos (by omega)]; congr 1; omega
    · rw [upd_ne _ e, im2_v f s off n x]
      by_cases h : off ≤ x ∧ x < off + n
      · rw [if_pos h, if_pos (by omega)]
      · rw [if_neg h, if_neg (by omega)]
theorem im3_v (f s : Nat → Int32) (off : Nat) : ∀ n x, im3 f s off n x = if off ≤ x ∧ x < off + n then s (x - off) else f x
  | 0, x => by rw [im3, if_neg (by omega)]
  | n + 1, x => by
    rw [im3]
    by_cases e : x = off + n
    · subst e; rw [upd_at, if_pos (by omega)]; congr 1; omega
    · rw [upd_ne _ e, im3_v f s off n x]
      by_cases h : off ≤ x ∧ x < off + n
      · rw [if_pos h, if_pos (by omega)]
      · rw [if_neg h, if_neg (by omega)]
/-- the reference's image row -/
def imF (f h u g p m s c : Nat → Int32) (a b d : Int32) (off : Nat) : Nat → Int32 := upd (upd (upd (im3 (im2 (im1 f h u g p m off 8) s (off + 40) 24) c (off + 64) 4) (off + 70) a) (off + 71) b) (off + 72) d
theorem imF_lo (f h u g p m s c : Nat → Int32) (a b d : Int32) (off : Nat) {x : Nat} (h1 : x < off + 40) : imF f h u g p m s c a b d off x = im1 f h u g p m off 8 x := by
  unfold imF
  rw [upd_ne _ (by omega), upd_ne _ (by omega), upd_ne _ (by omega), im3_v, if_neg (by omega), im2_v, if_neg (by omega)]
theorem imF_s (f h u g p m s c : Nat → Int32) (a b d : Int32) (off : Nat) {k : Nat} (hk : k < 24) : imF f h u g p m s c a b d off (off + 40 + k) = s k := by
  unfold imF
  rw [upd_ne _ (by omega), upd_ne _ (by omega), upd_ne _ (by omega), im3_v, if_neg (by omega), im2_v, if_pos (by omega)]
  congr 1; omega
theorem imF_c (f h u g p m s c : Nat → Int32) (a b d : Int32) (off : Nat) {k : Nat} (hk : k < 4) : imF f h u g p m s c a b d off (off + (64 + k)) = c k := by
  unfold imF
  rw [upd_ne _ (by omega), upd_ne _ (by omega), upd_ne _ (by omega), im3_v, if_pos (by omega)]
  congr 1; omega
theorem imF_o (f h u g p m s c : Nat → Int32) (a b d : Int32) (off : Nat) {x : Nat} (hx : x < off ∨ off + 73 ≤ x) : imF f h u g p m s c a b d off x = f x := by
  unfold imF
  rw [upd_ne _ (by omega), upd_ne _ (by omega), upd_ne _ (by omega), im3_v, if_neg (by omega), im2_v, if_neg (by omega), im1_o _ _ _ _ _ _ off (by omega) 8 (by omega)]
theorem imF_70 (f h u g p m s c : Nat → Int32) (a b d : Int32) (off : Nat) : imF f h u g p m s c a b d off (off + 70) = a ∧ imF f h u g p m s c a b d off (off + 71) = b ∧ imF f h u g p m s c a b d off (off + 72) = d := by
  unfold imF
  refine ⟨?_, ?_, ?_⟩
  · rw [upd_ne _ (by omega), upd_ne _ (by omega), upd_at]
  · rw [upd_ne _ (by omega), upd_at]
  · rw [upd_at]
theorem lo_kept {σ σ' : px_Sg} {j c off off' : Nat} (hj : σ' 0 (6 + j) = σ 0 (6 + j)) (h55 : σ' 55 j = σ 55 j) (h54 : ∀ x, off ≤ x → x < off + 73 → σ' 54 x = σ 54 x) (hc : ∀ k, c ≤ k → k ≤ c + 8 → σ' k = σ k) (h : Img σ j c off) : Img σ' j c off := by
  rcases h with ⟨a, b⟩ | ⟨a, b, w1, w2, w3, w4, w5, w6, ns, n1, n2, n3, n4⟩
  · exact Or.inl ⟨hj.trans a, h55.trans b⟩
  · refine Or.inr ⟨hj.trans a, h55.trans b, ?_, ?_, fun k hk => ?_, fun k hk => ?_, ?_, ?_, ns, n1, ?_, ?_, fun i hi => ?_⟩
    · rw [hc c (by omega) (by omega), hc (c + 1) (by omega) (by omega), hc (c + 2) (by omega) (by omega), hc (c + 3) (by omega) (by omega), hc (c + 4) (by omega) (by omega), hc (c + 5) (by omega) (by omega)]; exact w1
    · rw [hc (c + 8) (by omega) (by omega)]; exact w2
    · rw [hc (c + 1) (by omega) (by omega), hc (c + 2) (by omega) (by omega), hc (c + 3) (by omega) (by omega), hc (c + 4) (by omega) (by omega), hc (c + 5) (by omega) (by omega), h54 _ (by omega) (by omega), h54 _ (by omega) (by omega), h54 _ (by omega) (by omega), h54 _ (by omega) (by omega), h54 _ (by omega) (by omega)]; exact w3 k hk
    · rw [hc (c + 8) (by omega) (by omega), h54 _ (by omega) (by omega)]; exact w4 k hk
    · rw [hc c (by omega) (by omega), h54 _ (by omega) (by omega)]; exact w5
    · rw [hc c (by omega) (by omega), h54 _ (by omega) (by omega)]; exact w6
    · rw [hc c (by omega) (by omega)]; exact n2
    · rw [h54 _ (by omega) (by omega)]; exact n3
    · have h9 := n4 i hi
      rw [hc c (by omega) (by omega), hc (c + 6) (by omega) (by omega), hc (c + 7) (by omega) (by omega), h54 _ (by omega) (by omega), h54 _ (by omega) (by omega), h54 _ (by omega) (by omega)]
      exact h9
theorem o_image_0 (hR : Rel σ) : Op L xs mX2_image mX3_image [.int 0] σ := by
  obtain ⟨r1, r2, ⟨e1, e2, e3, e4, e5, e6⟩, r4, r5, ⟨ns, n1, n2, n3, n4⟩, r7, r8, r9, r10⟩ := hR
  have hF : (sM_image0 (sX_image0 σ)) 54 = imF (σ 54) (σ 41) (σ 42) (σ 43) (σ 44) (σ 45) (σ 47) (σ 46) (σ 40 5) (σ 40 6) (σ 40 8) 0 := rfl
  refine Op.of (tX_image_0 σ r1.2.2.2.2.2.1) (tM_image_0 _) rfl ?_
  refine ⟨r1, r2, ⟨e1, e2, e3, e4, e5, e6⟩, r4, r5, ⟨ns, n1, n2, n3, n4⟩, r7, r8, ?_, ?_⟩
  · refine Or.inr ⟨rfl, rfl, r1, r2, fun k hk => ?_, fun k hk => ?_, ?_, ?_, ns, n1, n2, ?_, fun i hi => ?_⟩
    · rw [hF]
      refine ⟨?_, ?_, ?_, ?_, ?_⟩
      · rw [imF_lo _ _ _ _ _ _ _ _ _ _ _ 0 (by omega), im1_0 _ _ _ _ _ _ 0 hk 8 (by omega) hk, e1]; rfl
      · rw [imF_lo _ _ _ _ _ _ _ _ _ _ _ 0 (by omega), im1_1 _ _ _ _ _ _ 0 hk 8 (by omega) hk, e2]; rfl
      · rw [imF_lo _ _ _ _ _ _ _ _ _ _ _ 0 (by omega), im1_2 _ _ _ _ _ _ 0 hk 8 (by omega) hk, e3]; rfl
      · rw [imF_lo _ _ _ _ _ _ _ _ _ _ _ 0 (by omega), im1_3 _ _ _ _ _ _ 0 hk 8 (by omega) hk, e4]; rfl
      · rw [imF_lo _ _ _ _ _ _ _ _ _ _ _ 0 (by omega), im1_4 _ _ _ _ _ _ 0 hk 8 (by omega) hk, e5]; rfl
    · rw [hF, imF_c _ _ _ _ _ _ _ _ _ _ _ 0 hk, e6]; rfl
    · rw [hF, (imF_70 _ _ _ _ _ _ _ _ _ _ _ 0).1, r4]; rfl
    · rw [hF, (imF_70 _ _ _ _ _ _ _ _ _ _ _ 0).2.1, r5]; rfl
    · rw [hF, (imF_70 _ _ _ _ _ _ _ _ _ _ _ 0).2.2]; exact n3
    · obtain ⟨a1, a2, a3, a4, a5⟩ := n4 i hi
      simp only [Nat.zero_add] at a3 a4 a5
      rw [hF]
      exact ⟨a1, a2, (imF_s _ _ _ _ _ _ _ _ _ _ _ 0 (k := 3 * i) (by omega)).trans a3, (imF_s _ _ _ _ _ _ _ _ _ _ _ 0 (k := 3 * i + 1) (by omega)).trans a4, (imF_s _ _ _ _ _ _ _ _ _ _ _ 0 (k := 3 * i + 2) (by omega)).trans a5⟩
  · refine lo_kept (σ := σ) (off' := 0) rfl rfl (fun x h1 h2 => ?_) (fun k h1 h2 => ?_) r10
    · rw [hF]; exact imF_o _ _ _ _ _ _ _ _ _ _ _ 0 (by omega)
    · simp [sM_image0, sX_image0, s_copy_19_1, px_up, show k ≠ 0 by omega, show k ≠ 54 by omega, show k ≠ 55 by omega, show k ≠ 19 by omega, show k ≠ 20 by omega, show k ≠ 21 by omega, show k ≠ 22 by omega, show k ≠ 23 by omega, show k ≠ 24 by omega, show k ≠ 25 by omega, show k ≠ 26 by omega, show k ≠ 27 by omega]
theorem cp_z0 {f g h : Nat → Int32} {n : Nat} (h1 : ∀ k, k < n → f k = h k) (h2 : zo n g) (h3 : zo n h) : cpn f g n = h := by
  funext k
  rcases Nat.lt_or_ge k n with q | q
  · rw [cpn_lt _ _ q]; exact h1 k q
  · rw [h3 k q, ← h2 k q]; simp [cpn, Nat.not_lt.mpr q]
theorem o_restore_0 (hR : Rel σ) : Op L xs mX2_restore mX3_restore [.int 0] σ := by
  have hR0 := hR
  obtain ⟨r1, r2, ⟨e1, e2, e3, e4, e5, e6⟩, r4, r5, ⟨ns', n1', n2', n3', n4'⟩, r7, r8, r9, r10⟩ := hR
  rcases r9 with ⟨a, b⟩ | ⟨a, b, w1, w2, w3, w4, w5, w6, ns, n1, n2, n3, n4⟩
  · exact ⟨_, σ, σ, tX_restoreN0 σ a, tM_restoreN0 σ b, hR0⟩
  · have rI : Img σ 0 19 0 := Or.inr ⟨a, b, w1, w2, w3, w4, w5, w6, ns, n1, n2, n3, n4⟩
    refine Op.of (tX_restore_0 σ a w1.2.2.2.2.2.1) (tM_restore_0 _ b) rfl ?_
    obtain ⟨-, -, -, -, -, -, -, z1, z2, z3, z4, z5⟩ := r1
    obtain ⟨-, -, -, -, -, -, -, y1, y2, y3, y4, y5⟩ := id w1
    refine ⟨w1, w2, ⟨?_, ?_, ?_, ?_, ?_, ?_⟩, w5, w6, ⟨ns, n1, n2, n3, fun i hi => ?_⟩, r7, r8, ?_, ?_⟩
    · exact cp_z0 (fun k hk => (w3 k hk).1) (by rw [← e1] at z1; exact z1) y1
    · exact cp_z0 (fun k hk => (w3 k hk).2.1) (by rw [← e2] at z2; exact z2) y2
    · exact cp_z0 (fun k hk => (w3 k hk).2.2.1) (by rw [← e3] at z3; exact z3) y3
    · exact cp_z0 (fun k hk => (w3 k hk).2.2.2.1) (by rw [← e4] at z4; exact z4) y4
    · exact cp_z0 (fun k hk => (w3 k hk).2.2.2.2) (by rw [← e5] at z5; exact z5) y5
    · exact cp_z0 (fun k hk => (show σ 54 (64 + k) = σ 54 (0 + (64 + k)) from congrArg (σ 54) (by omega)).trans (w4 k hk)) (by rw [← e6] at r2; exact r2) w2
    · obtain ⟨a1, a2, a3, a4, a5⟩ := n4 i hi
      refine ⟨a1, a2, ?_, ?_, ?_⟩
      · show cpn (fun k => σ 54 (40 + k)) (σ 47) 24 (0 + 3 * i) = _
        rw [cpn_lt _ _ (by omega), Nat.zero_add]; exact a3
      · show cpn (fun k => σ 54 (40 + k)) (σ 47) 24 (0 + (3 * i + 1)) = _
        rw [cpn_lt _ _ (by omega), Nat.zero_add]; exact a4
      · show cpn (fun k => σ 54 (40 + k)) (σ 47) 24 (0 + (3 * i + 2)) = _
        rw [cpn_lt _ _ (by omega), Nat.zero_add]; exact a5
    · exact Img.sm rfl rfl rfl (fun k h1 h2 => by simp [sM_restore0, s_copy_1_19, px_up, show k ≠ 40 by omega, show k ≠ 41 by omega, show k ≠ 42 by omega, show k ≠ 43 by omega, show k ≠ 44 by omega, show k ≠ 45 by omega, show k ≠ 46 by omega, show k ≠ 47 by omega, show k ≠ 1 by omega, show k ≠ 2 by omega, show k ≠ 3 by omega, show k ≠ 4 by omega, show k ≠ 5 by omega, show k ≠ 6 by omega, show k ≠ 7 by omega, show k ≠ 8 by omega, show k ≠ 9 by omega]) rI
    · exact Img.sm rfl rfl rfl (fun k h1 h2 => by simp [sM_restore0, s_copy_1_19, px_up, show k ≠ 40 by omega, show k ≠ 41 by omega, show k ≠ 42 by omega, show k ≠ 43 by omega, show k ≠ 44 by omega, show k ≠ 45 by omega, show k ≠ 46 by omega, show k ≠ 47 by omega, show k ≠ 1 by omega, show k ≠ 2 by omega, show k ≠ 3 by omega, show k ≠ 4 by omega, show k ≠ 5 by omega, show k ≠ 6 by omega, show k ≠ 7 by omega, show k ≠ 8 by omega, show k ≠ 9 by omega]) r10
theorem o_image_1 (hR : Rel σ) : Op L xs mX2_image mX3_image [.int 1] σ := by
  obtain ⟨r1, r2, ⟨e1, e2, e3, e4, e5, e6⟩, r4, r5, ⟨ns, n1, n2, n3, n4⟩, r7, r8, r9, r10⟩ := hR
  have hF : (sM_image1 (sX_image1 σ)) 54 = imF (σ 54) (σ 41) (σ 42) (σ 43) (σ 44) (σ 45) (σ 47) (σ 46) (σ 40 5) (σ 40 6) (σ 40 8) 90 := rfl
  refine Op.of (tX_image_1 σ r1.2.2.2.2.2.1) (tM_image_1 _) rfl ?_
  refine ⟨r1, r2, ⟨e1, e2, e3, e4, e5, e6⟩, r4, r5, ⟨ns, n1, n2, n3, n4⟩, r7, r8, ?_, ?_⟩
  · refine lo_kept (σ := σ) (off' := 0) rfl rfl (fun x h1 h2 => ?_) (fun k h1 h2 => ?_) r9
    · rw [hF]; exact imF_o _ _ _ _ _ _ _ _ _ _ _ 90 (by omega)
    · simp [sM_image1, sX_image1, s_copy_28_1, px_up, show k ≠ 0 by omega, show k ≠ 54 by omega, show k ≠ 55 by omega, show k ≠ 28 by omega, show k ≠ 29 by omega, show k ≠ 30 by omega, show k ≠ 31 by omega, show k ≠ 32 by omega, show k ≠ 33 by omega, show k ≠ 34 by omega, show k ≠ 35 by omega, show k ≠ 36 by omega]
  · refine Or.inr ⟨rfl, rfl, r1, r2, fun k hk => ?_, fun k hk => ?_, ?_, ?_, ns, n1, n2, ?_, fun i hi => ?_⟩
    · rw [hF]
      refine ⟨?_, ?_, ?_, ?_, ?_⟩
      · rw [imF_lo _ _ _ _ _ _ _ _ _ _ _ 90 (by omega), im1_0 _ _ _ _ _ _ 90 hk 8 (by omega) hk, e1]; rfl
      · rw [imF_lo _ _ _ _ _ _ _ _ _ _ _ 90 (by omega), im1_1 _ _ _ _ _ _ 90 hk 8 (by omega) hk, e2]; rfl
      · rw [imF_lo _ _ _ _ _ _ _ _ _ _ _ 90 (by omega), im1_2 _ _ _ _ _ _ 90 hk 8 (by omega) hk, e3]; rfl
      · rw [imF_lo _ _ _ _ _ _ _ _ _ _ _ 90 (by omega), im1_3 _ _ _ _ _ _ 90 hk 8 (by omega) hk, e4]; rfl
      · rw [imF_lo _ _ _ _ _ _ _ _ _ _ _ 90 (by omega), im1_4 _ _ _ _ _ _ 90 hk 8 (by omega) hk, e5]; rfl
    · rw [hF, imF_c _ _ _ _ _ _ _ _ _ _ _ 90 hk, e6]; rfl
    · rw [hF, (imF_70 _ _ _ _ _ _ _ _ _ _ _ 90).1, r4]; rfl
    · rw [hF, (imF_70 _ _ _ _ _ _ _ _ _ _ _ 90).2.1, r5]; rfl
    · rw [hF, (imF_70 _ _ _ _ _ _ _ _ _ _ _ 90).2.2]; exact n3
    · obtain ⟨a1, a2, a3, a4, a5⟩ := n4 i hi
      simp only [Nat.zero_add] at a3 a4 a5
      rw [hF]
      exact ⟨a1, a2, (imF_s _ _ _ _ _ _ _ _ _ _ _ 90 (k := 3 * i) (by omega)).trans a3, (imF_s _ _ _ _ _ _ _ _ _ _ _ 90 (k := 3 * i + 1) (by omega)).trans a4, (imF_s _ _ _ _ _ _ _ _ _ _ _ 90 (k := 3 * i + 2) (by omega)).trans a5⟩
theorem cp_z1 {f g h : Nat → Int32} {n : Nat} (h1 : ∀ k, k < n → f k = h k) (h2 : zo n g) (h3 : zo n h) : cpn f g n = h := by
  funext k
  rcases Nat.lt_or_ge k n with q | q
  · rw [cpn_lt _ _ q]; exact h1 k q
  · rw [h3 k q, ← h2 k q]; simp [cpn, Nat.not_lt.mpr q]
theorem o_restore_1 (hR : Rel σ) : Op L xs mX2_restore mX3_restore [.int 1] σ := by
  have hR0 := hR
  obtain ⟨r1, r2, ⟨e1, e2, e3, e4, e5, e6⟩, r4, r5, ⟨ns', n1', n2', n3', n4'⟩, r7, r8, r9, r10⟩ := hR
  rcases r10 with ⟨a, b⟩ | ⟨a, b, w1, w2, w3, w4, w5, w6, ns, n1, n2, n3, n4⟩
  · exact ⟨_, σ, σ, tX_restoreN1 σ a, tM_restoreN1 σ b, hR0⟩
  · have rI : Img σ 1 28 90 := Or.inr ⟨a, b, w1, w2, w3, w4, w5, w6, ns, n1, n2, n3, n4⟩
    refine Op.of (tX_restore_1 σ a w1.2.2.2.2.2.1) (tM_restore_1 _ b) rfl ?_
    obtain ⟨-, -, -, -, -, -, -, z1, z2, z3, z4, z5⟩ := r1
    obtain ⟨-, -, -, -, -, -, -, y1, y2, y3, y4, y5⟩ := id w1
    refine ⟨w1, w2, ⟨?_, ?_, ?_, ?_, ?_, ?_⟩, w5, w6, ⟨ns, n1, n2, n3, fun i hi => ?_⟩, r7, r8, ?_, ?_⟩
    · exact cp_z1 (fun k hk => (w3 k hk).1) (by rw [← e1] at z1; exact z1) y1
    · exact cp_z1 (fun k hk => (w3 k hk).2.1) (by rw [← e2] at z2; exact z2) y2
    · exact cp_z1 (fun k hk => (w3 k hk).2.2.1) (by rw [← e3] at z3; exact z3) y3
    · exact cp_z1 (fun k hk => (w3 k hk).2.2.2.1) (by rw [← e4] at z4; exact z4) y4
    · exact cp_z1 (fun k hk => (w3 k hk).2.2.2.2) (by rw [← e5] at z5; exact z5) y5
    · exact cp_z1 (fun k hk => (show σ 54 (154 + k) = σ 54 (90 + (64 + k)) from congrArg (σ 54) (by omega)).trans (w4 k hk)) (by rw [← e6] at r2; exact r2) w2
    · obtain ⟨a1, a2, a3, a4, a5⟩ := n4 i hi
      refine ⟨a1, a2, ?_, ?_, ?_⟩
      · show cpn (fun k => σ 54 (130 + k)) (σ 47) 24 (0 + 3 * i) = _
        rw [cpn_lt _ _ (by omega), Nat.zero_add]; exact a3
      · show cpn (fun k => σ 54 (130 + k)) (σ 47) 24 (0 + (3 * i + 1)) = _
        rw [cpn_lt _ _ (by omega), Nat.zero_add]; exact a4
      · show cpn (fun k => σ 54 (130 + k)) (σ 47) 24 (0 + (3 * i + 2)) = _
        rw [cpn_lt _ _ (by omega), Nat.zero_add]; exact a5
    · exact Img.sm rfl rfl rfl (fun k h1 h2 => by simp [sM_restore1, s_copy_1_28, px_up, show k ≠ 40 by omega, show k ≠ 41 by omega, show k ≠ 42 by omega, show k ≠ 43 by omega, show k ≠ 44 by omega, show k ≠ 45 by omega, show k ≠ 46 by omega, show k ≠ 47 by omega, show k ≠ 1 by omega, show k ≠ 2 by omega, show k ≠ 3 by omega, show k ≠ 4 by omega, show k ≠ 5 by omega, show k ≠ 6 by omega, show k ≠ 7 by omega, show k ≠ 8 by omega, show k ≠ 9 by omega]) r9
    · exact Img.sm rfl rfl rfl (fun k h1 h2 => by simp [sM_restore1, s_copy_1_28, px_up, show k ≠ 40 by omega, show k ≠ 41 by omega, show k ≠ 42 by omega, show k ≠ 43 by omega, show k ≠ 44 by omega, show k ≠ 45 by omega, show k ≠ 46 by omega, show k ≠ 47 by omega, show k ≠ 1 by omega, show k ≠ 2 by omega, show k ≠ 3 by omega, show k ≠ 4 by omega, show k ≠ 5 by omega, show k ≠ 6 by omega, show k ≠ 7 by omega, show k ≠ 8 by omega, show k ≠ 9 by omega]) rI
theorem o_image (hR : Rel σ) (q : Int32) : Op L xs mX2_image mX3_image [.int q] σ := by
  cases hv : iB q 0 1 with
  | false => exact ⟨_, σ, σ, tX_image0 σ q hv, tM_image0 σ q hv, hR⟩
  | true =>
    rw [i2_iB] at hv
    rcases i2_ex hv with rfl | rfl
    · exact o_image_0 hR
    · exact o_image_1 hR
theorem o_restore (hR : Rel σ) (q : Int32) : Op L xs mX2_restore mX3_restore [.int q] σ := by
  cases hv : iB q 0 1 with
  | false => exact ⟨_, σ, σ, tX_restore0 σ q hv, tM_restore0 σ q hv, hR⟩
  | true =>
    rw [i2_iB] at hv
    rcases i2_ex hv with rfl | rfl
    · exact o_restore_0 hR
    · exact o_restore_1 hR
theorem iB_of {x : Nat} {a b : Nat} (hx : x < 2147483648) (hb : b < 2147483648) (ha : a ≤ b) : iB (nI x) (nI a) (nI b) = (decide (a ≤ x) && decide (x ≤ b)) := by
  unfold iB
  have q1 := nI_ltI (a := x) (b := a) hx (by omega)
  have q2 := nI_ltI (a := b) (b := x) hb hx
  simp only [q1, q2]
  by_cases h1 : x < a
  · simp [h1, Nat.not_le.mpr h1]
  · by_cases h2 : b < x
    · simp [h1, h2, Nat.not_le.mpr h2]
    · simp [h1, h2, Nat.not_lt.mp h1, Nat.not_lt.mp h2]
theorem i8_neg {x : Int32} (h : x < 0) : i8 x = false := by simp [i8, h]
theorem i4_neg {x : Int32} (h : x < 0) : i4 x = false := by simp [i4, h]
theorem o_toldZ (hR : Rel σ) {q : Int32} (a0 : ¬ q = 0) (a1 : ¬ q = 1) (a2 : ¬ q < 2 → i4 (q - 2) = false) (a3 : ¬ q < 10 → i8 (q / 10 - 1) = false) (a4 : ¬ q < 100 → i8 (q - 100) = false) (a5 : iB q 2 5 = false) : Op L xs mX2_told mX3_told [.int q] σ := ⟨_, σ, σ, tX_toldZ σ q a0 a1 a2 a3 a4, tM_toldZ σ q a0 a1 a2 a3 a4 a5, hR⟩
theorem o_told (hR : Rel σ) (q : Int32) : Op L xs mX2_told mX3_told [.int q] σ := by
  obtain ⟨e1, e2, e3, e4, e5, e6⟩ := hR.2.2.1
  obtain ⟨ns, n1, n2, n3, n4⟩ := hR.2.2.2.2.2.1
  obtain ⟨np, p1, p2, p3⟩ := hR.2.2.2.2.2.2.1
  by_cases h0 : q < 0
  · have hlt : ∀ c : Nat, c < 2147483648 → q < nI c := fun c hc => by
      rw [Int32.lt_iff_toInt_lt] at h0 ⊢
      rw [nI_toInt (by omega)]
      have : (0 : Int32).toInt = 0 := by decide
      omega
    refine o_toldZ hR (fun z => by rw [z] at h0; exact absurd h0 (by decide)) (fun z => by rw [z] at h0; exact absurd h0 (by decide)) (fun z => absurd (hlt 2 (by omega)) z) (fun z => absurd (hlt 10 (by omega)) z) (fun z => absurd (hlt 100 (by omega)) z) ?_
    unfold iB
    have : q < 2 := hlt 2 (by omega)
    simp [this]
  · obtain ⟨j, hj, rfl⟩ := nI_of h0
    by_cases c1 : j < 6
    · match j, c1 with
      | 0, _ => exact Op.of (tX_told_0 σ) (tM_told_0 σ) (by rw [p2, p3]) hR
      | 1, _ => exact Op.of (tX_told_1 σ) (tM_told_1 σ) (by rw [n2, n3]) hR
      | 2, _ => exact Op.of (tX_told_2 σ) (tM_told_2 σ) (by rw [e6]) hR
      | 3, _ => exact Op.of (tX_told_3 σ) (tM_told_3 σ) (by rw [e6]) hR
      | 4, _ => exact Op.of (tX_told_4 σ) (tM_told_4 σ) (by rw [e6]) hR
      | 5, _ => exact Op.of (tX_told_5 σ) (tM_told_5 σ) (by rw [e6]) hR
    · have z0 : ¬ nI j = 0 := fun z => absurd ((nI_eq (b := 0) hj (by omega)).mp z) (by omega)
      have z1 : ¬ nI j = 1 := fun z => absurd ((nI_eq (b := 1) hj (by omega)).mp z) (by omega)
      have z2 : ¬ nI j < 2 → i4 (nI j - 2) = false := fun _ => by
        rw [show nI j - 2 = nI (j - 2) from pk_sub (b := 2) (by omega)]
        exact i4_big (by omega) (by omega)
      have z5 : iB (nI j) 2 5 = false := by
        rw [show iB (nI j) 2 5 = iB (nI j) (nI 2) (nI 5) from rfl, iB_of hj (by omega) (by omega)]
        simp [show ¬ j ≤ 5 by omega]
      have hdv : nI j / 10 = nI (j / 10) := pk_div (d := 10) hj (by omega) (by omega)
      by_cases c2 : j < 10
      · exact o_toldZ hR z0 z1 z2 (fun z => absurd (nI_lt (b := 10) c2 (by omega)) z) (fun z => absurd (nI_lt (b := 100) (by omega) (by omega)) z) z5
      · by_cases c3 : j < 90
        · obtain ⟨k, d, hk, hd, rfl⟩ : ∃ k d : Nat, k < 8 ∧ d < 10 ∧ j = 10 * (k + 1) + d := ⟨j / 10 - 1, j % 10, by omega, by omega, by omega⟩
          by_cases hd4 : d < 4
          · match d, hd4 with
            | 0, _ => exact Op.of (tX_toldP0 σ hk) (tM_toldP0 σ hk) (by rw [e1]) hR
            | 1, _ => exact Op.of (tX_toldP1 σ hk) (tM_toldP1 σ hk) (by rw [e2]) hR
            | 2, _ => exact Op.of (tX_toldP2 σ hk) (tM_toldP2 σ hk) (by rw [e3]) hR
            | 3, _ => exact Op.of (tX_toldP3 σ hk) (tM_toldP3 σ hk) (by rw [e4]) hR
          · exact Op.of (tX_toldPN σ hk (by omega) hd) (tM_toldPN σ hk (by omega) hd) rfl hR
        · have z3 : ¬ nI j < 10 → i8 (nI j / 10 - 1) = false := fun _ => by
            rw [hdv, show nI (j / 10) - 1 = nI (j / 10 - 1) from pk_sub (b := 1) (by omega)]
            exact i8_big (by omega) (by omega)
          by_cases c4 : j < 100
          · exact o_toldZ hR z0 z1 z2 z3 (fun z => absurd (nI_lt (b := 100) c4 (by omega)) z) z5
          · by_cases c5 : j < 108
            · obtain ⟨k, hk, rfl⟩ : ∃ k : Nat, k < 8 ∧ j = 100 + k := ⟨j - 100, by omega, by omega⟩
              exact Op.of (tX_toldA σ hk) (tM_toldA σ hk) (by rw [e5]) hR
            · refine o_toldZ hR z0 z1 z2 z3 (fun _ => ?_) z5
              rw [show nI j - 100 = nI (j - 100) from pk_sub (b := 100) (by omega)]
              exact i8_big (by omega) (by omega)
end OPS4
