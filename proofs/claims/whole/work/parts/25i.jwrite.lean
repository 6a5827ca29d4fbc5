/-! the joint invariant: write -/
theorem MJ_eq {H : zH} {I F I' F' : zI} (h : MJ H I F) (a : I' 55 = I 55) (b : I' 56 = I 56) (c : I' 60 = I 60) (d : I' 75 = I 75) (e : F' 50 = F 50) : MJ H I' F' := by
  obtain ⟨h1, h2, h3, h4, h5, h6, h7⟩ := h
  have b3 : b_32 I' = b_32 I := by unfold b_32; rw [a]
  have b6 : b_64 I' = b_64 I := by unfold b_64; rw [a]
  have f0 : fa_0 I' = fa_0 I := by unfold fa_0; rw [a, b]
  have f1 : fa_1 I' = fa_1 I := by unfold fa_1; rw [b3, b]
  have f2 : fa_2 I' = fa_2 I := by unfold fa_2; rw [b6, b]
  have n0 : np_ I' = np_ I := by unfold np_; rw [f0, b]
  have n1 : nq_ I' = nq_ I := by unfold nq_; rw [f1, b]
  have n2 : nc_ I' = nc_ I := by unfold nc_; rw [f2, b]
  refine ⟨h1, h2, ?_, by rw [e]; exact h4, by rw [e]; exact h5, by rw [e]; exact h6, by rw [d, e]; exact h7⟩
  unfold mtx mev at h3 ⊢
  rw [a, b, c, e, b3, b6, n0, n1, n2]
  exact h3
theorem mfr_53 {I F I' F' : zI} (h : mfr I F I' F') (r : zr) : mfr (va_up I 53 r) F (va_up I' 53 r) F' := by
  refine ⟨⟨fun j hj => ?_, h.1.2⟩, h.2⟩
  by_cases e : j = 53
  · subst e; rw [va_eq, va_eq]
  · rw [va_ne e, va_ne e]; exact h.1.1 j hj
theorem mfr_4 {I F I' F' : zI} (h : mfr I F I' F') (x : Int32) : mfr I (zu2 F 50 4 x) I' (zu2 F' 50 4 x) := by
  obtain ⟨⟨h1, h2, h3, h4, h5⟩, h6, h7⟩ := h
  refine ⟨⟨h1, fun j hj => ?_, ?_, ?_, ?_⟩, ?_, ?_⟩
  · rw [zu_ne hj, zu_ne hj]; exact h2 j hj
  · rw [zu_eq, pk_us, zu_eq, pk_us]
  · rw [zu_eq, pk_un (by decide), zu_eq, pk_un (by decide)]; exact h4
  · rw [zu_eq, pk_un (by decide), zu_eq, pk_un (by decide)]; exact h5
  · rw [zu_eq, pk_un (by decide), zu_eq, pk_un (by decide)]; exact h6
  · rw [zu_eq, pk_un (by decide), zu_eq, pk_un (by decide)]; exact h7
theorem xp_25 {I F : zI} (h : J I F) {p : Int32} (hq : 0 ≤ p ∧ p < F 8 0) {d : Nat} (hd : d < 24) : x_pI 23 I F 25 (nI d * 8 + p).toNatClampNeg = a_gb (hl I F) (8 * d + p.toNatClampNeg) := by
  have hJ := J_XJ h
  obtain ⟨C0, e⟩ := xP_cD hJ v23
  have e : x_P 23 I F = cD (hl I F) C0 24 := e
  obtain ⟨q1, q2, q3⟩ := p_lt hJ.1 hq
  have n8 := (zn_of hJ.1.1 (by decide)).2
  have i1 : (nI d * 8 + p).toNatClampNeg = d * 8 + p.toNatClampNeg := by
    rw [q1, show (8 : Int32) = nI 8 from rfl, pk_mul, nI_add, nI_clamp (by omega), nI_clamp (by omega)]
  have i2 : x_pI 23 I F 25 = ck (x_P 23 I F) := rfl
  rw [i1, i2, e, cD_ck hJ.1 C0 24 (by omega) d _ hd (by omega), ((ind_day hJ.1 hJ.2.1 C0 hd).2.1 _ (by omega)).1]
  unfold a_gb
  rw [show (8 * d + p.toNatClampNeg) / 8 = d by omega, show (8 * d + p.toNatClampNeg) % 8 = p.toNatClampNeg by omega]
theorem uj_write {I F : zI} (h : J I F) (p s : Int32) : MJ (hl I F) (x_write p s I F).2.1 (x_write p s I F).2.2 ∧ msh (x_write p s I F).2.1 ∧ ∀ I1 F1, mfr (x_write p s I F).2.1 (x_write p s I F).2.2 I1 F1 → (x_write p s I F).1 = (A_write (hl I F) p s (x_write p s I F).2.1 (x_write p s I F).2.2 I1 F1).1 ∧ J (A_write (hl I F) p s (x_write p s I F).2.1 (x_write p s I F).2.2 I1 F1).2.1 (A_write (hl I F) p s (x_write p s I F).2.1 (x_write p s I F).2.2 I1 F1).2.2 := by
  have hM := K_MJ h.1
  rcases (Classical.em ((0 ≤ p ∧ p < F 8 0) ∧ (0 ≤ s ∧ s < 4))).symm with hc | hc
  · have x1 : x_write p s I F = (-2, I, F) := if_neg hc
    rw [x1]
    refine ⟨hM, J_msh h, fun I1 F1 g => ?_⟩
    have x2 : A_write (hl I F) p s I F I1 F1 = (-2, I1, F1) := if_neg hc
    rw [x2]
    exact ⟨rfl, J_mfr h g⟩
  have sv : vp_in s 4 := by rw [← vp_iff (by decide)]; exact hc.2
  have s2 := (zn_of sv (by decide)).2
  have w := h.1.2.2.2.2.1 _ s2
  have wl := JW_lost w
  rw [← z_snn] at w wl
  by_cases h0 : F (z_sn s) 0 = -1
  · have x1 : x_write p s I F = (-11, I, zu2 F 0 9 1) := (if_pos hc).trans (if_pos h0)
    rw [x1]
    refine ⟨MJ_eq hM rfl rfl rfl rfl rfl, J_msh h, fun I1 F1 g => ?_⟩
    have x2 : A_write (hl I F) p s I (zu2 F 0 9 1) I1 F1 = (-11, I1, zu2 F1 50 4 1) := (if_pos hc).trans (if_neg (wl.mp h0))
    dsimp only
    rw [x2]
    exact ⟨rfl, J_mfr (J_find h 1) (mfr_4 g 1)⟩
  have h0' : 0 ≤ I 51 s.toNatClampNeg := Classical.byContradiction fun z => h0 (wl.mpr z)
  obtain ⟨w1, w2, w3, w4, w5⟩ := w
  obtain ⟨w6, w7⟩ := w5 (fun z => h0 (w1.trans z))
  have x1 : x_write p s I F = (zmn (F (z_sn s) 1) 24, x_wr (z_sn s) p (F (z_sn s) 0) (zmn (F (z_sn s) 1) 24).toNatClampNeg 0 (x_pI 23 I F), x_pF 23 I F) := (if_pos hc).trans (if_neg h0)
  have hmv := vp_mn w4
  have hm2 := (zn_of hmv (by decide)).2
  have hg : ∀ d, d < 24 → x_pI 23 I F 25 (nI d * 8 + p).toNatClampNeg = a_gb (hl I F) (8 * d + p.toNatClampNeg) := fun d hd => xp_25 h hc.1 hd
  have hJ := J_XS h (XS_p (J_XJ h) v23)
  have g1 := (XS_p (J_XJ h) v23).1
  have g2 := (XS_p (J_XJ h) v23).2.1
  have ehl := XS_hl (XS_p (J_XJ h) v23)
  have hW := hJ.1.2.2.2.2.1 _ s2
  rw [w6, w1] at x1
  rw [z_snn] at x1
  obtain ⟨r1, r2⟩ := x_wr_at (42 + 2 * s.toNatClampNeg) (by omega) p (I 51 s.toNatClampNeg) (zmn (I 52 s.toNatClampNeg) 24).toNatClampNeg 0 (x_pI 23 I F) (by omega)
  have hMJ := K_MJ hJ.1
  rw [ehl] at hMJ
  rw [x1]
  have i51 : x_wr (42 + 2 * s.toNatClampNeg) p (I 51 s.toNatClampNeg) (zmn (I 52 s.toNatClampNeg) 24).toNatClampNeg 0 (x_pI 23 I F) 51 = I 51 := by rw [r1 51 (by omega), g1 51 (by omega) (by omega)]
  have i52 : x_wr (42 + 2 * s.toNatClampNeg) p (I 51 s.toNatClampNeg) (zmn (I 52 s.toNatClampNeg) 24).toNatClampNeg 0 (x_pI 23 I F) 52 = I 52 := by rw [r1 52 (by omega), g1 52 (by omega) (by omega)]
  have i53 : x_wr (42 + 2 * s.toNatClampNeg) p (I 51 s.toNatClampNeg) (zmn (I 52 s.toNatClampNeg) 24).toNatClampNeg 0 (x_pI 23 I F) 53 = I 53 := by rw [r1 53 (by omega), g1 53 (by omega) (by omega)]
  refine ⟨MJ_eq hMJ (r1 55 (by omega)) (r1 56 (by omega)) (r1 60 (by omega)) (r1 75 (by omega)) rfl, fun u hu => ?_, fun I1 F1 g => ?_⟩
  · dsimp only
    rw [i52]
    exact J_msh h u hu
  · dsimp only at g ⊢
    have x2 : A_write (hl I F) p s (x_wr (42 + 2 * s.toNatClampNeg) p (I 51 s.toNatClampNeg) (zmn (I 52 s.toNatClampNeg) 24).toNatClampNeg 0 (x_pI 23 I F)) (x_pF 23 I F) I1 F1 = _ := (if_pos hc).trans (if_pos (by rw [i51]; exact h0'))
    rw [x2]
    rw [i51, i52, i53]
    refine ⟨rfl, J_mfr (KW hJ (fun j hj => ?_) (fun _ _ => rfl) rfl (JW_set hJ.1.2.2.2.2.1 s.toNatClampNeg (fun u hu hn => ⟨rfl, ?_, ?_, ?_, fun k hk => ?_⟩) ⟨?_, ?_, hW.2.2.1, ?_, fun z => ⟨?_, fun k hk => ?_⟩⟩)) (mfr_53 g _)⟩
    · rw [va_ne (by omega), r1 j (by omega)]
    · rw [va_ne (by omega), r1 _ (by omega)]
    · rw [va_ne (by omega), r1 51 (by omega)]
    · rw [va_ne (by omega), r1 52 (by omega)]
    · rw [va_eq, m_wr_at, if_neg (by omega), g1 53 (by omega) (by omega)]
    · rw [va_ne (by omega), r1 51 (by omega)]; exact hW.1
    · rw [va_ne (by omega), r1 51 (by omega)]; exact hW.2.1
    · rw [va_ne (by omega), r1 52 (by omega)]; exact hW.2.2.2.1
    · rw [va_ne (by omega), r1 51 (by omega)] at z
      rw [va_ne (by omega), r1 52 (by omega)]
      exact (hW.2.2.2.2 z).1
    · rw [va_ne (show ¬ 52 = 53 by decide), i52] at hk
      rw [va_ne (show ¬ 42 + 2 * s.toNatClampNeg + 1 = 53 by omega), va_eq, r2, m_wr_at]
      by_cases c : k < (zmn (I 52 s.toNatClampNeg) 24).toNatClampNeg
      · rw [if_pos (by omega), if_pos (by omega), hg k (by omega), show 60 * s.toNatClampNeg + k - 60 * s.toNatClampNeg = k by omega]
      · rw [if_neg (by omega), if_neg (by omega), g1 _ (by omega) (by omega)]
        exact w7 k hk
