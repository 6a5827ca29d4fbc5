/-! the joint invariant: texts -/
theorem J_new {I F : zI} (h : K I F) (h1 : F 17 1 = -1) (h2 : F 0 5 = 1) : J I F := ⟨h, Or.inl h1, fun z => absurd (h2.symm.trans z) (by decide)⟩
theorem JE_fr {I F I' F' : zI} (h : JE I F) (a : I' 15 = I 15) (b : I' 16 = I 16) (c : I' 60 = I 60) (d : F' 8 9 = F 8 9) (e : F' 50 = F 50) : JE I' F' := by
  unfold JE at h ⊢
  rw [a, b, c, d, e]
  exact h
theorem JS_fr {I F I' F' : zI} (h : JS I F) (a : I' 37 = I 37) (b : I' 38 = I 38) (c : I' 39 = I 39) (g : I' 75 = I 75) (d : F' 36 = F 36) (e : F' 50 = F 50) : JS I' F' := by
  unfold JS at h ⊢
  rw [a, b, c, d, e, g]
  exact h
theorem JW_fr {I F I' F' : zI} (h : JW I F) (a : ∀ s, s < 4 → F' (42 + 2 * s) = F (42 + 2 * s) ∧ I' (42 + 2 * s + 1) = I (42 + 2 * s + 1)) (b : I' 51 = I 51) (c : I' 52 = I 52) (g : I' 53 = I 53) : JW I' F' := by
  intro s hs
  have := h s hs
  rwa [← (a s hs).1, ← (a s hs).2, ← b, ← c, ← g] at this
theorem JL_fr {F F' : zI} (h : JL F) (a : F' 0 9 = F 0 9) (b : F' 50 = F 50) (c : F' 8 8 = F 8 8) (d : F' 8 9 = F 8 9) (e : F' 8 12 = F 8 12) : JL F' := by
  unfold JL x_al at h ⊢
  rw [a, b, c, d, e]
  exact h
theorem nI_clz (n : Nat) (h : n < 2 ^ 31) : (if (nI n) = nI n then nI n else 0).toNatClampNeg = n := by rw [if_pos rfl, nI_clamp h]
theorem p_sl_of {t n : Nat} {F : zI} {f : Int32} (hn : n < 2 ^ 31) (h3 : F t 3 = nI n) (h4 : F t 4 = f) : p_sl t F = if f = -1 then n else 0 := by
  unfold p_sl
  rw [h3, h4]
  split
  · exact nI_clamp hn
  · rfl
theorem KT2 {I F I' F' : zI} (h : K I F) (n : Nat) (hn : n ≤ 23)
    (r1 : ∀ j, ¬ j = 3 → ¬ j = 9 → ¬ j = 10 → ¬ j = 55 → ¬ j = 56 → I' j = I j)
    (r2 : ∀ j, ¬ j = 0 → ¬ j = 2 → ¬ j = 8 → ¬ j = 17 → F' j = F j)
    (r3 : F' 0 9 = F 0 9) (r4 : ∀ i, ¬ i = 0 → F' 8 i = F 8 i) (r5 : F' 2 0 = F 2 0) (r6 : F' 2 1 = F 2 1)
    (r7 : F' 2 3 = nI n) (r8 : I' 56 0 = nI n) (r9 : I' 56 1 = I 56 1) (r10 : I' 56 2 = I 56 2)
    (r11 : ∀ j, 32 ≤ j → I' 55 j = I 55 j) (r12 : ∀ j, j < n → I' 3 j = I' 55 j)
    (r13 : F' 2 4 = tq_ff 2 (I' 3) n n 0 0)
    (r14 : F' 8 0 = nI ((p_sl 2 F' + 1) / 3)) (r15 : I' 9 = p_rS ((p_sl 2 F' + 1) / 3) (I' 3) (I 9)) (r16 : I' 10 = p_rT ((p_sl 2 F' + 1) / 3) (I' 3) (I 10)) : K I' F' := by
  have cl : (I' 56 0).toNatClampNeg = n := by rw [r8]; exact nI_clamp (by omega)
  have b3 : b_32 I' = b_32 I := funext fun j => r11 (32 + j) (by omega)
  have b6 : b_64 I' = b_64 I := funext fun j => r11 (64 + j) (by omega)
  have f0 : fa_0 I' = F' 2 4 := by
    unfold fa_0
    rw [cl, r13]
    exact tq_congr n 0 0 (fun j _ hj => (r12 j (by omega)).symm)
  have f1 : fa_1 I' = fa_1 I := by unfold fa_1; rw [b3, r9]
  have f2 : fa_2 I' = fa_2 I := by unfold fa_2; rw [b6, r10]
  have n1 : nq_ I' = nq_ I := by unfold nq_; rw [f1, r9]
  have n2 : nc_ I' = nc_ I := by unfold nc_; rw [f2, r10]
  have n0 : (p_sl 2 F' + 1) / 3 = np_ I' := by
    rw [p_sl_of (by omega) r7 f0.symm]
    unfold np_
    rw [cl]
    split <;> omega
  rw [n0] at r14 r15 r16
  obtain ⟨⟨h1, h2, h3, h4, h5, h6, h7, h8, h9, h10⟩, ⟨hh1, hh2, hh3⟩, hE, hS, hW, hL⟩ := h
  have F4 := r2 4 (by omega) (by omega) (by omega) (by omega)
  have F6 := r2 6 (by omega) (by omega) (by omega) (by omega)
  refine ⟨⟨⟨⟨?_, ?_, ?_⟩, ?_, ?_⟩, ?_, ?_, ?_, ?_, ?_, ?_, ?_, ?_, ?_⟩, ⟨⟨r14, ?_⟩, ?_, ?_⟩, ?_, ?_, ?_, ?_⟩
  · rw [r5]; exact h1.1.1
  · rw [r6]; exact h1.1.2.1
  · rw [r7]; exact vp_in_nI (show n < zcap 2 + 1 by show n < 24; omega) (by decide)
  · unfold tok1; rw [F4]; exact h1.2.1
  · unfold tok1; rw [F6]; exact h1.2.2
  · rw [r7, r8]
  · rw [F4, r9]; exact h3
  · rw [F6, r10]; exact h4
  · exact f0.symm
  · rw [F4, f1]; exact h6
  · rw [F6, f2]; exact h7
  · rw [cl]; exact r12
  · rw [r9, b3, r1 5 (by omega) (by omega) (by omega) (by omega) (by omega)]; exact h9
  · rw [r10, b6, r1 7 (by omega) (by omega) (by omega) (by omega) (by omega)]; exact h10
  · intro j hj
    rw [r15, r16]
    unfold p_rS p_rT
    rw [if_pos hj, if_pos hj]
    have hj2 : 3 * j + 1 < n := by
      unfold np_ at hj
      rw [cl] at hj
      split at hj <;> omega
    rw [r12 (3 * j) (by omega), r12 (3 * j + 1) hj2]
    exact ⟨rfl, rfl⟩
  · unfold JH2
    rw [n1, b3, r4 3 (by decide), r1 11 (by omega) (by omega) (by omega) (by omega) (by omega), r1 12 (by omega) (by omega) (by omega) (by omega) (by omega), r1 13 (by omega) (by omega) (by omega) (by omega) (by omega)]
    exact hh2
  · unfold JH3
    rw [n2, b6, r1 14 (by omega) (by omega) (by omega) (by omega) (by omega)]
    exact hh3
  · exact JE_fr hE (r1 15 (by omega) (by omega) (by omega) (by omega) (by omega)) (r1 16 (by omega) (by omega) (by omega) (by omega) (by omega)) (r1 60 (by omega) (by omega) (by omega) (by omega) (by omega)) (r4 9 (by decide)) (r2 50 (by omega) (by omega) (by omega) (by omega))
  · exact JS_fr hS (r1 37 (by omega) (by omega) (by omega) (by omega) (by omega)) (r1 38 (by omega) (by omega) (by omega) (by omega) (by omega)) (r1 39 (by omega) (by omega) (by omega) (by omega) (by omega)) (r1 75 (by omega) (by omega) (by omega) (by omega) (by omega)) (r2 36 (by omega) (by omega) (by omega) (by omega)) (r2 50 (by omega) (by omega) (by omega) (by omega))
  · exact JW_fr hW (fun s hs => ⟨r2 _ (by omega) (by omega) (by omega) (by omega), r1 _ (by omega) (by omega) (by omega) (by omega) (by omega)⟩) (r1 51 (by omega) (by omega) (by omega) (by omega) (by omega)) (r1 52 (by omega) (by omega) (by omega) (by omega) (by omega)) (r1 53 (by omega) (by omega) (by omega) (by omega) (by omega))
  · exact JL_fr hL r3 (r2 50 (by omega) (by omega) (by omega) (by omega)) (r4 8 (by decide)) (r4 9 (by decide)) (r4 12 (by decide))
theorem KT4 {I F I' F' : zI} (h : K I F) (n : Nat) (hn : n ≤ 31)
    (r1 : ∀ j, ¬ j = 5 → ¬ j = 11 → ¬ j = 12 → ¬ j = 13 → ¬ j = 55 → ¬ j = 56 → I' j = I j)
    (r2 : ∀ j, ¬ j = 0 → ¬ j = 4 → ¬ j = 8 → ¬ j = 17 → F' j = F j)
    (r3 : F' 0 9 = F 0 9) (r4 : ∀ i, ¬ i = 3 → F' 8 i = F 8 i) (r5 : F' 4 0 = F 4 0) (r6 : F' 4 1 = F 4 1)
    (r7 : F' 4 3 = nI n) (r8 : I' 56 1 = nI n) (r9 : I' 56 0 = I 56 0) (r10 : I' 56 2 = I 56 2)
    (r11 : ∀ j, (j < 32 ∨ 64 ≤ j) → I' 55 j = I 55 j) (r12 : ∀ j, j < n → I' 5 j = I' 55 (32 + j))
    (r13 : F' 4 4 = tq_ff 4 (I' 5) n n 0 0)
    (r14 : F' 8 3 = nI ((p_sl 4 F' + 1) / 4)) (r15 : I' 11 = p_rQ ((p_sl 4 F' + 1) / 4) 0 48 (I' 5) (I 11)) (r16 : I' 12 = p_rQ ((p_sl 4 F' + 1) / 4) 1 48 (I' 5) (I 12)) (r17 : I' 13 = p_rQ ((p_sl 4 F' + 1) / 4) 2 97 (I' 5) (I 13)) : K I' F' := by
  have cl : (I' 56 1).toNatClampNeg = n := by rw [r8]; exact nI_clamp (by omega)
  have z0 := (zn_of (K_t h).1 (by decide)).2
  have b6 : b_64 I' = b_64 I := funext fun j => r11 (64 + j) (by omega)
  have f0 : fa_0 I' = fa_0 I := by
    unfold fa_0
    rw [r9]
    exact tq_congr _ 0 0 (fun j _ hj => r11 j (by omega))
  have f1 : fa_1 I' = F' 4 4 := by
    unfold fa_1
    rw [cl, r13]
    exact tq_congr n 0 0 (fun j _ hj => (r12 j (by omega)).symm)
  have f2 : fa_2 I' = fa_2 I := by unfold fa_2; rw [b6, r10]
  have n0 : np_ I' = np_ I := by unfold np_; rw [f0, r9]
  have n2 : nc_ I' = nc_ I := by unfold nc_; rw [f2, r10]
  have n1 : (p_sl 4 F' + 1) / 4 = nq_ I' := by
    rw [p_sl_of (by omega) r7 f1.symm]
    unfold nq_
    rw [cl]
    split <;> omega
  rw [n1] at r14 r15 r16 r17
  obtain ⟨k0, _, _⟩ := K_np h
  obtain ⟨⟨h1, h2, h3, h4, h5, h6, h7, h8, h9, h10⟩, ⟨hh1, hh2, hh3⟩, hE, hS, hW, hL⟩ := h
  have F2 := r2 2 (by omega) (by omega) (by omega) (by omega)
  have F6 := r2 6 (by omega) (by omega) (by omega) (by omega)
  refine ⟨⟨⟨?_, ⟨?_, ?_, ?_⟩, ?_⟩, ?_, ?_, ?_, ?_, ?_, ?_, ?_, ?_, ?_⟩, ⟨?_, ⟨r14, ?_⟩, ?_⟩, ?_, ?_, ?_, ?_⟩
  · unfold tok1; rw [F2]; exact h1.1
  · rw [r5]; exact h1.2.1.1
  · rw [r6]; exact h1.2.1.2.1
  · rw [r7]; exact vp_in_nI (show n < zcap 4 + 1 by show n < 32; omega) (by decide)
  · unfold tok1; rw [F6]; exact h1.2.2
  · rw [F2, r9]; exact h2
  · rw [r7, r8]
  · rw [F6, r10]; exact h4
  · rw [F2, f0]; exact h5
  · exact f1.symm
  · rw [F6, f2]; exact h7
  · intro j hj
    rw [r9] at hj
    rw [r1 3 (by omega) (by omega) (by omega) (by omega) (by omega) (by omega), r11 j (by omega)]
    exact h8 j hj
  · rw [cl]; exact r12
  · rw [r10, b6, r1 7 (by omega) (by omega) (by omega) (by omega) (by omega) (by omega)]; exact h10
  · refine ⟨by rw [n0, r4 0 (by decide)]; exact hh1.1, fun j hj => ?_⟩
    rw [n0] at hj
    rw [r1 9 (by omega) (by omega) (by omega) (by omega) (by omega) (by omega), r1 10 (by omega) (by omega) (by omega) (by omega) (by omega) (by omega), r11 (3 * j) (by omega), r11 (3 * j + 1) (by omega)]
    exact hh1.2 j hj
  · intro j hj
    rw [r15, r16, r17]
    unfold p_rQ
    rw [if_pos hj, if_pos hj, if_pos hj]
    have hj2 : 4 * j + 2 < n := by
      unfold nq_ at hj
      rw [cl] at hj
      split at hj <;> omega
    rw [r12 (4 * j + 0) (by omega), r12 (4 * j + 1) (by omega), r12 (4 * j + 2) hj2]
    exact ⟨rfl, rfl, rfl⟩
  · unfold JH3
    rw [n2, b6, r1 14 (by omega) (by omega) (by omega) (by omega) (by omega) (by omega)]
    exact hh3
  · exact JE_fr hE (r1 15 (by omega) (by omega) (by omega) (by omega) (by omega) (by omega)) (r1 16 (by omega) (by omega) (by omega) (by omega) (by omega) (by omega)) (r1 60 (by omega) (by omega) (by omega) (by omega) (by omega) (by omega)) (r4 9 (by decide)) (r2 50 (by omega) (by omega) (by omega) (by omega))
  · exact JS_fr hS (r1 37 (by omega) (by omega) (by omega) (by omega) (by omega) (by omega)) (r1 38 (by omega) (by omega) (by omega) (by omega) (by omega) (by omega)) (r1 39 (by omega) (by omega) (by omega) (by omega) (by omega) (by omega)) (r1 75 (by omega) (by omega) (by omega) (by omega) (by omega) (by omega)) (r2 36 (by omega) (by omega) (by omega) (by omega)) (r2 50 (by omega) (by omega) (by omega) (by omega))
  · exact JW_fr hW (fun s hs => ⟨r2 _ (by omega) (by omega) (by omega) (by omega), r1 _ (by omega) (by omega) (by omega) (by omega) (by omega) (by omega)⟩) (r1 51 (by omega) (by omega) (by omega) (by omega) (by omega) (by omega)) (r1 52 (by omega) (by omega) (by omega) (by omega) (by omega) (by omega)) (r1 53 (by omega) (by omega) (by omega) (by omega) (by omega) (by omega))
  · exact JL_fr hL r3 (r2 50 (by omega) (by omega) (by omega) (by omega)) (r4 8 (by decide)) (r4 9 (by decide)) (r4 12 (by decide))
theorem KT6 {I F I' F' : zI} (h : K I F) (n : Nat) (hn : n ≤ 24)
    (r1 : ∀ j, ¬ j = 7 → ¬ j = 14 → ¬ j = 55 → ¬ j = 56 → I' j = I j)
    (r2 : ∀ j, ¬ j = 0 → ¬ j = 6 → ¬ j = 17 → F' j = F j)
    (r3 : F' 0 9 = F 0 9) (r5 : F' 6 0 = F 6 0) (r6 : F' 6 1 = F 6 1)
    (r7 : F' 6 3 = nI n) (r8 : I' 56 2 = nI n) (r9 : I' 56 0 = I 56 0) (r10 : I' 56 1 = I 56 1)
    (r11 : ∀ j, j < 64 → I' 55 j = I 55 j) (r12 : ∀ j, j < n → I' 7 j = I' 55 (64 + j))
    (r13 : F' 6 4 = tq_ff 6 (I' 7) n n 0 0)
    (r15 : I' 14 = p_rG 24 (p_sl 6 F') (I' 7) (I 14)) : K I' F' := by
  have cl : (I' 56 2).toNatClampNeg = n := by rw [r8]; exact nI_clamp (by omega)
  have z0 := (zn_of (K_t h).1 (by decide)).2
  have z1 := (zn_of (K_t h).2.1 (by decide)).2
  have f0 : fa_0 I' = fa_0 I := by
    unfold fa_0
    rw [r9]
    exact tq_congr _ 0 0 (fun j _ hj => r11 j (by omega))
  have f1 : fa_1 I' = fa_1 I := by
    unfold fa_1
    rw [r10]
    exact tq_congr _ 0 0 (fun j _ hj => r11 (32 + j) (by omega))
  have f2 : fa_2 I' = F' 6 4 := by
    unfold fa_2
    rw [cl, r13]
    exact tq_congr n 0 0 (fun j _ hj => (r12 j (by omega)).symm)
  have n0 : np_ I' = np_ I := by unfold np_; rw [f0, r9]
  have n1 : nq_ I' = nq_ I := by unfold nq_; rw [f1, r10]
  have n2 : p_sl 6 F' = nc_ I' := by
    rw [p_sl_of (by omega) r7 f2.symm]
    unfold nc_
    rw [cl]
  rw [n2] at r15
  obtain ⟨k0, k1, _⟩ := K_np h
  obtain ⟨⟨h1, h2, h3, h4, h5, h6, h7, h8, h9, h10⟩, ⟨hh1, hh2, hh3⟩, hE, hS, hW, hL⟩ := h
  have F2 := r2 2 (by omega) (by omega) (by omega)
  have F4 := r2 4 (by omega) (by omega) (by omega)
  have F8 := r2 8 (by omega) (by omega) (by omega)
  refine ⟨⟨⟨?_, ?_, ⟨?_, ?_, ?_⟩⟩, ?_, ?_, ?_, ?_, ?_, ?_, ?_, ?_, ?_⟩, ⟨?_, ?_, ?_⟩, ?_, ?_, ?_, ?_⟩
  · unfold tok1; rw [F2]; exact h1.1
  · unfold tok1; rw [F4]; exact h1.2.1
  · rw [r5]; exact h1.2.2.1
  · rw [r6]; exact h1.2.2.2.1
  · rw [r7]; exact vp_in_nI (show n < zcap 6 + 1 by show n < 25; omega) (by decide)
  · rw [F2, r9]; exact h2
  · rw [F4, r10]; exact h3
  · rw [r7, r8]
  · rw [F2, f0]; exact h5
  · rw [F4, f1]; exact h6
  · exact f2.symm
  · intro j hj
    rw [r9] at hj
    rw [r1 3 (by omega) (by omega) (by omega) (by omega), r11 j (by omega)]
    exact h8 j hj
  · intro j hj
    rw [r10] at hj
    rw [r1 5 (by omega) (by omega) (by omega) (by omega), show b_32 I' j = b_32 I j from r11 (32 + j) (by omega)]
    exact h9 j hj
  · rw [cl]; exact r12
  · refine ⟨by rw [n0, F8]; exact hh1.1, fun j hj => ?_⟩
    rw [n0] at hj
    rw [r1 9 (by omega) (by omega) (by omega) (by omega), r1 10 (by omega) (by omega) (by omega) (by omega), r11 (3 * j) (by omega), r11 (3 * j + 1) (by omega)]
    exact hh1.2 j hj
  · refine ⟨by rw [n1, F8]; exact hh2.1, fun j hj => ?_⟩
    rw [n1] at hj
    rw [r1 11 (by omega) (by omega) (by omega) (by omega), r1 12 (by omega) (by omega) (by omega) (by omega), r1 13 (by omega) (by omega) (by omega) (by omega), show b_32 I' (4 * j) = b_32 I (4 * j) from r11 (32 + 4 * j) (by omega), show b_32 I' (4 * j + 1) = b_32 I (4 * j + 1) from r11 (32 + (4 * j + 1)) (by omega), show b_32 I' (4 * j + 2) = b_32 I (4 * j + 2) from r11 (32 + (4 * j + 2)) (by omega)]
    exact hh2.2 j hj
  · intro d hd
    rw [r15]
    unfold p_rG
    rw [if_pos hd]
    by_cases hc : d < nc_ I'
    · rw [if_pos hc, if_pos hc]
      have : d < n := by
        unfold nc_ at hc
        rw [cl] at hc
        split at hc <;> omega
      rw [r12 d this]
      rfl
    · rw [if_neg hc, if_neg hc]
  · exact JE_fr hE (r1 15 (by omega) (by omega) (by omega) (by omega)) (r1 16 (by omega) (by omega) (by omega) (by omega)) (r1 60 (by omega) (by omega) (by omega) (by omega)) (by rw [F8]) (r2 50 (by omega) (by omega) (by omega))
  · exact JS_fr hS (r1 37 (by omega) (by omega) (by omega) (by omega)) (r1 38 (by omega) (by omega) (by omega) (by omega)) (r1 39 (by omega) (by omega) (by omega) (by omega)) (r1 75 (by omega) (by omega) (by omega) (by omega)) (r2 36 (by omega) (by omega) (by omega)) (r2 50 (by omega) (by omega) (by omega))
  · exact JW_fr hW (fun s hs => ⟨r2 _ (by omega) (by omega) (by omega), r1 _ (by omega) (by omega) (by omega) (by omega)⟩) (r1 51 (by omega) (by omega) (by omega) (by omega)) (r1 52 (by omega) (by omega) (by omega) (by omega)) (r1 53 (by omega) (by omega) (by omega) (by omega))
  · exact JL_fr hL r3 (r2 50 (by omega) (by omega) (by omega)) (by rw [F8]) (by rw [F8]) (by rw [F8])
