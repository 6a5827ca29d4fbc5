/-! the joint invariant -/
def JT (I F : zI) : Prop := tok F ∧ F 2 3 = I 56 0 ∧ F 4 3 = I 56 1 ∧ F 6 3 = I 56 2 ∧ F 2 4 = fa_0 I ∧ F 4 4 = fa_1 I ∧ F 6 4 = fa_2 I ∧ (∀ j, j < (I 56 0).toNatClampNeg → I 3 j = I 55 j) ∧ (∀ j, j < (I 56 1).toNatClampNeg → I 5 j = b_32 I j) ∧ (∀ j, j < (I 56 2).toNatClampNeg → I 7 j = b_64 I j)
def JH1 (I F : zI) : Prop := F 8 0 = nI (np_ I) ∧ ∀ j, j < np_ I → I 9 j = p_so (I 55 (3 * j)) ∧ I 10 j = I 55 (3 * j + 1) - 48
def JH2 (I F : zI) : Prop := F 8 3 = nI (nq_ I) ∧ ∀ j, j < nq_ I → I 11 j = b_32 I (4 * j) - 48 ∧ I 12 j = b_32 I (4 * j + 1) - 48 ∧ I 13 j = b_32 I (4 * j + 2) - 97
def JH3 (I : zI) : Prop := ∀ d, d < 24 → I 14 d = if d < nc_ I then b_64 I d - 48 else 3
def JE (I F : zI) : Prop := F 8 9 = F 50 13 ∧ vp_in (F 8 9) 9 ∧ ∀ e, e < (F 8 9).toNatClampNeg → I 15 e = I 60 (2 * e) ∧ I 16 e = I 60 (2 * e + 1)
def JW1 (s : Nat) (a b : zr) (x y : Int32) (c : zr) : Prop := a 0 = x ∧ (x = -1 ∨ x = 0 ∨ x = 1 ∨ x = 2) ∧ vp_in (a 1) 61 ∧ vp_in y 61 ∧ (¬ x = -1 → a 1 = y ∧ ∀ i, i < y.toNatClampNeg → b i = c (60 * s + i))
def JW (I F : zI) : Prop := ∀ s, s < 4 → JW1 s (F (42 + 2 * s)) (I (42 + 2 * s + 1)) (I 51 s) (I 52 s) (I 53)
def JL (F : zI) : Prop := F 0 9 = F 50 4 ∧ F 50 15 = 0 ∧ F 50 16 = -1 ∧ F 8 8 = -1 ∧ F 8 12 = x_al F
def K (I F : zI) : Prop := JT I F ∧ (JH1 I F ∧ JH2 I F ∧ JH3 I) ∧ JE I F ∧ JS I F ∧ JW I F ∧ JL F
def J (I F : zI) : Prop := K I F ∧ JP I F ∧ JC I F
/-! what a sound text's bytes are -/
theorem nI_m1 {i : Nat} (h : i < 2 ^ 31) : ¬ nI i = -1 := by
  intro z
  have h1 : (0 : Int32) ≤ nI i := nI_pos' h
  rw [z] at h1
  exact absurd h1 (by decide)
theorem tq4_fit {b : zr} {len : Nat} : ∀ r i, i + r ≤ 40 → tq_ff 4 b len r i (nI (i % 4)) = -1 → ∀ j, i ≤ j → j < i + r → ¬ t_fits 4 (nI (j % 4)) (b j) = 0 := by
  intro r
  induction r with
  | zero => exact fun i _ _ j h1 h2 => absurd h1 (by omega)
  | succ r ih =>
    intro i hi h j h1 h2
    simp only [tq_ff, tq_next4 (show i < 100 by omega)] at h
    by_cases c : t_fits 4 (nI (i % 4)) (b i) = 0
    · rw [if_pos c] at h
      exact absurd h (nI_m1 (by omega))
    · rw [if_neg c] at h
      by_cases e : j = i
      · subst e; exact c
      · exact ih (i + 1) (by omega) h j (by omega) (by omega)
theorem tq6_fit {b : zr} {len : Nat} : ∀ r i, i + r ≤ 40 → tq_ff 6 b len r i 0 = -1 → ∀ j, i ≤ j → j < i + r → 48 ≤ b j ∧ b j ≤ 57 := by
  intro r
  induction r with
  | zero => exact fun i _ _ j h1 h2 => absurd h1 (by omega)
  | succ r ih =>
    intro i hi h j h1 h2
    rw [tq6_succ] at h
    by_cases c : 48 ≤ b i ∧ b i ≤ 57
    · rw [if_pos c] at h
      by_cases e : j = i
      · subst e; exact c
      · exact ih (i + 1) (by omega) h j (by omega) (by omega)
    · rw [if_neg c] at h
      exact absurd h (nI_m1 (by omega))
theorem tq_congr {t : Nat} {b b' : zr} {len : Nat} : ∀ r i part, (∀ j, i ≤ j → j < i + r → b j = b' j) → tq_ff t b len r i part = tq_ff t b' len r i part := by
  intro r
  induction r with
  | zero => exact fun _ _ _ => rfl
  | succ r ih =>
    intro i part h
    simp only [tq_ff]
    rw [h i (by omega) (by omega), ih (i + 1) _ (fun j h1 h2 => h j (by omega) (by omega))]
theorem vp_dig {b : Int32} {n : Nat} (c : Int32) (hc : c.toInt = 48 ∨ c.toInt = 97) (hn : n < 100) (h1 : c ≤ b) (h2 : b.toInt < c.toInt + n) : vp_in (b - c) n := by
  rw [Int32.le_iff_toInt_le] at h1
  rw [vp_in_iff, Int32.toInt_sub, Int.bmod_eq_of_le (by omega) (by omega)]
  omega
theorem K_nc {I F : zI} (h : K I F) : p_sl 6 F = nc_ I := by
  obtain ⟨⟨_, _, _, e1, _, _, e2, _⟩, _⟩ := h
  unfold p_sl nc_
  rw [e1, e2]
  split <;> rfl
theorem K_t {I F : zI} (h : K I F) : vp_in (I 56 0) 24 ∧ vp_in (I 56 1) 32 ∧ vp_in (I 56 2) 25 := by
  obtain ⟨⟨⟨t0, t1, t2⟩, e0, e1, e2, _⟩, _⟩ := h
  refine ⟨?_, ?_, ?_⟩
  · rw [← e0]; exact t0.2.2
  · rw [← e1]; exact t1.2.2
  · rw [← e2]; exact t2.2.2
theorem K_np {I F : zI} (h : K I F) : np_ I ≤ 8 ∧ nq_ I ≤ 8 ∧ nc_ I ≤ 24 := by
  obtain ⟨t0, t1, t2⟩ := K_t h
  have z0 := (zn_of t0 (by decide)).2
  have z1 := (zn_of t1 (by decide)).2
  have z2 := (zn_of t2 (by decide)).2
  unfold np_ nq_ nc_
  refine ⟨?_, ?_, ?_⟩ <;> split <;> omega
theorem K_hok {I F : zI} (h : K I F) : hok (hl I F) := by
  obtain ⟨n0, n1, n2⟩ := K_np h
  obtain ⟨t0, t1, t2⟩ := K_t h
  have z1 := (zn_of t1 (by decide)).2
  obtain ⟨_, ⟨a, b, _⟩, ⟨_, e, _⟩, _⟩ := h
  refine ⟨?_, ?_, e, fun q hq => ?_⟩
  · show vp_in (F 8 0) 9
    rw [a.1]; exact vp_in_nI (by omega) (by decide)
  · show vp_in (F 8 3) 9
    rw [b.1]; exact vp_in_nI (by omega) (by decide)
  · have hq : q < (F 8 3).toNatClampNeg := hq
    rw [b.1, nI_clamp (by omega)] at hq
    obtain ⟨b1, b2, _⟩ := b.2 q hq
    show vp_in (I 11 q) 8 ∧ vp_in (I 12 q) 8
    rw [b1, b2]
    unfold nq_ at hq
    split at hq
    · next c =>
      have f := tq4_fit (b := b_32 I) (I 56 1).toNatClampNeg 0 (by omega) c
      have f0 := f (4 * q) (by omega) (by omega)
      have f1 := f (4 * q + 1) (by omega) (by omega)
      rw [show 4 * q % 4 = 0 by omega] at f0
      rw [show (4 * q + 1) % 4 = 1 by omega] at f1
      generalize b_32 I (4 * q) = x at f0 ⊢
      generalize b_32 I (4 * q + 1) = y at f1 ⊢
      have g0 : 48 ≤ x ∧ x ≤ 55 := by
        refine Classical.byContradiction fun z => f0 ?_
        unfold t_fits
        rw [if_neg (by decide : ¬ (4 : Nat) = 6), if_neg (by decide : ¬ nI 0 = zsd 4 - 1), if_neg (by decide : ¬ (4 : Nat) = 2), if_pos (by decide : nI 0 < 2), if_neg z]
      have g1 : 48 ≤ y ∧ y ≤ 55 := by
        refine Classical.byContradiction fun z => f1 ?_
        unfold t_fits
        rw [if_neg (by decide : ¬ (4 : Nat) = 6), if_neg (by decide : ¬ nI 1 = zsd 4 - 1), if_neg (by decide : ¬ (4 : Nat) = 2), if_pos (by decide : nI 1 < 2), if_neg z]
      have u (w : Int32) (g : 48 ≤ w ∧ w ≤ 55) : vp_in (w - 48) 8 := by
        refine vp_dig 48 (Or.inl rfl) (by decide) g.1 ?_
        have := Int32.le_iff_toInt_le.mp g.2
        have e5 : (55 : Int32).toInt = 55 := rfl
        have e6 : (48 : Int32).toInt = 48 := rfl
        omega
      exact ⟨u x g0, u y g1⟩
    · omega
theorem K_hcut {I F : zI} (h : K I F) : hcut (hl I F) := by
  obtain ⟨n0, n1, n2⟩ := K_np h
  obtain ⟨t0, t1, t2⟩ := K_t h
  have z2 := (zn_of t2 (by decide)).2
  obtain ⟨_, ⟨_, _, c⟩, _⟩ := h
  intro d hd
  show vp_in (I 14 d) 10
  rw [c d hd]
  by_cases hc : d < nc_ I
  · rw [if_pos hc]
    unfold nc_ at hc
    split at hc
    · next cc =>
      have f := tq6_fit (b := b_64 I) (I 56 2).toNatClampNeg 0 (by omega) cc d (by omega) (by omega)
      refine vp_dig 48 (Or.inl rfl) (by decide) f.1 ?_
      have := Int32.le_iff_toInt_le.mp f.2
      have e5 : (57 : Int32).toInt = 57 := rfl
      have e6 : (48 : Int32).toInt = 48 := rfl
      omega
    · omega
  · rw [if_neg hc]
    exact vp_in_nI (n := 3) (by decide) (by decide)
theorem K_JG {I F : zI} (h : K I F) : JG I F := by
  have e := K_nc h
  obtain ⟨⟨⟨_, _, t2⟩, _, _, e1, _, _, e2, _, _, b⟩, ⟨_, _, c⟩, _⟩ := h
  refine ⟨vp_if t2.2.2 (by decide), fun j hj => ?_⟩
  rw [c j hj, e]
  by_cases hc : j < nc_ I
  · rw [if_pos hc, if_pos hc]
    unfold nc_ at hc
    split at hc
    · rw [b j hc]
    · omega
  · rw [if_neg hc, if_neg hc]
theorem J_XJ {I F : zI} (h : J I F) : XJ I F := ⟨K_hok h.1, K_hcut h.1, h.2.1, h.2.2, h.1.2.2.2.2.2.2.2.2.1, h.1.2.2.2.2.2.2.2.2.2, h.1.2.2.2.1, K_JG h.1⟩
theorem K_mtx {I F : zI} (h : K I F) : mtx (hl I F) I F := by
  obtain ⟨n0, n1, n2⟩ := K_np h
  refine ⟨K_t h, h.2.1.1, h.2.1.2.1, h.2.1.2.2, ?_⟩
  obtain ⟨_, _, ⟨e1, e2, e3⟩, _, _, l1, l2, l3, l4, l5⟩ := h
  refine ⟨e1, l4.trans l3.symm, fun e he => ?_⟩
  have he : e < (F 8 9).toNatClampNeg := he
  obtain ⟨u1, u2⟩ := e3 e he
  refine ⟨u1, u2, ?_⟩
  obtain ⟨v1, v2⟩ := zn_of e2 (by decide)
  have w := zb_al ⟨(F 8 9).toNatClampNeg, v2⟩ ⟨e, by omega⟩ he
  dsimp only at w
  rw [← v1] at w
  rw [l2]
  have l5 : hpr (hl I F) = _ := l5
  rw [l5]
  refine iff_of_true w ?_
  have : (0 : Int32) >>> (nI e &&& 31) = 0 := by
    have hh : ∀ e : Fin 8, (0 : Int32) >>> (nI e.val &&& 31) = 0 := by decide +kernel
    exact hh ⟨e, by omega⟩
  rw [this]
  decide
theorem K_MJ {I F : zI} (h : K I F) : MJ (hl I F) I F := by
  refine ⟨K_hok h, K_hcut h, K_mtx h, h.2.2.2.2.2.2.1, h.2.2.2.2.2.2.2.1, ?_, fun i hi => ?_⟩
  · rw [← h.2.2.2.1.1]; exact h.2.2.2.1.2.1
  · rw [← h.2.2.2.1.1] at hi
    obtain ⟨a, b, _, c, d⟩ := h.2.2.2.1.2.2 i hi
    rw [← a, ← b]
    exact ⟨c, d⟩
theorem K_cnt {I F : zI} (h : K I F) (w : Int32) : x_count w F = A_count (hl I F) I F w := by
  obtain ⟨⟨_, a0, a1, a2, f0, f1, f2, _⟩, _, ⟨e1, _⟩, ⟨s1, _⟩, _, l1, _⟩ := h
  unfold x_count A_count
  rw [a0, a1, a2, f2, e1, s1, l1]
  have : (if fa_2 I = -1 then I 56 2 else 0) = nI (nc_ I) := by
    unfold nc_
    by_cases c : fa_2 I = -1
    · rw [if_pos c, if_pos c]
      exact (zn_of (n := 25) (by rw [← a2]; exact (by assumption : tok F).2.2.2.2) (by decide)).1
    · rw [if_neg c, if_neg c]; rfl
  rw [this]
  rfl
theorem K_flt {I F : zI} (h : K I F) (t : Int32) (ht : 0 ≤ t ∧ t < 3) : F (z_tn t) 4 = A_ft I t := by
  obtain ⟨⟨_, a0, a1, a2, f0, f1, f2, _⟩, _⟩ := h
  rcases w3_or ht with rfl | rfl | rfl
  · exact f0
  · exact f1
  · exact f2
/-! frames -/
theorem K_fr {I F I' F' : zI} (h : K I F) (g1 : ∀ j, ¬ (17 ≤ j ∧ j ≤ 35) → ¬ j = 40 → (j < 57 ∨ j = 60 ∨ j = 75) → I' j = I j) (g2 : ∀ j, ¬ j = 0 → ¬ j = 17 → ¬ j = 26 → ¬ j = 50 → F' j = F j) (g3 : F' 0 9 = F 0 9) (g4 : F' 50 4 = F 50 4) (g5 : F' 50 13 = F 50 13) (g6 : F' 50 33 = F 50 33) (g7 : F' 50 15 = F 50 15) (g8 : F' 50 16 = F 50 16) : K I' F' := by
  have e55 : I' 55 = I 55 := g1 55 (by omega) (by omega) (by omega)
  have e56 : I' 56 = I 56 := g1 56 (by omega) (by omega) (by omega)
  have f8 : F' 8 = F 8 := g2 8 (by omega) (by omega) (by omega) (by omega)
  have b3 : b_32 I' = b_32 I := by unfold b_32; rw [e55]
  have b6 : b_64 I' = b_64 I := by unfold b_64; rw [e55]
  have f0 : fa_0 I' = fa_0 I := by unfold fa_0; rw [e55, e56]
  have f1 : fa_1 I' = fa_1 I := by unfold fa_1; rw [b3, e56]
  have f2 : fa_2 I' = fa_2 I := by unfold fa_2; rw [b6, e56]
  have n0 : np_ I' = np_ I := by unfold np_; rw [f0, e56]
  have n1 : nq_ I' = nq_ I := by unfold nq_; rw [f1, e56]
  have n2 : nc_ I' = nc_ I := by unfold nc_; rw [f2, e56]
  obtain ⟨h1, ⟨h2, h3, h4⟩, h5, h6, h7, h8⟩ := h
  refine ⟨?_, ⟨?_, ?_, ?_⟩, ?_, ?_, ?_, ?_⟩
  · unfold JT tok tok1 at h1 ⊢
    rw [g2 2 (by omega) (by omega) (by omega) (by omega), g2 4 (by omega) (by omega) (by omega) (by omega), g2 6 (by omega) (by omega) (by omega) (by omega), e55, e56, b3, b6, f0, f1, f2, g1 3 (by omega) (by omega) (by omega), g1 5 (by omega) (by omega) (by omega), g1 7 (by omega) (by omega) (by omega)]
    exact h1
  · unfold JH1 at h2 ⊢
    rw [f8, n0, e55, g1 9 (by omega) (by omega) (by omega), g1 10 (by omega) (by omega) (by omega)]
    exact h2
  · unfold JH2 at h3 ⊢
    rw [f8, n1, b3, g1 11 (by omega) (by omega) (by omega), g1 12 (by omega) (by omega) (by omega), g1 13 (by omega) (by omega) (by omega)]
    exact h3
  · unfold JH3 at h4 ⊢
    rw [n2, b6, g1 14 (by omega) (by omega) (by omega)]
    exact h4
  · unfold JE at h5 ⊢
    rw [f8, g5, g1 15 (by omega) (by omega) (by omega), g1 16 (by omega) (by omega) (by omega), g1 60 (by omega) (by omega) (by omega)]
    exact h5
  · unfold JS at h6 ⊢
    rw [g6, g2 36 (by omega) (by omega) (by omega) (by omega), g1 37 (by omega) (by omega) (by omega), g1 38 (by omega) (by omega) (by omega), g1 39 (by omega) (by omega) (by omega), g1 75 (by omega) (by omega) (by omega)]
    exact h6
  · intro s hs
    have := h7 s hs
    rwa [← g2 (42 + 2 * s) (by omega) (by omega) (by omega) (by omega), ← g1 (42 + 2 * s + 1) (by omega) (by omega) (by omega), ← g1 51 (by omega) (by omega) (by omega), ← g1 52 (by omega) (by omega) (by omega), ← g1 53 (by omega) (by omega) (by omega)] at this
  · unfold JL x_al at h8 ⊢
    rw [f8, g3, g4, g7, g8]
    exact h8
theorem J_XS {I F I' F' : zI} (h : J I F) (g : XS I F I' F') : J I' F' := by
  have f50 := g.2.1 50 (by omega) (by omega) (by omega)
  refine ⟨K_fr h.1 (fun j a b _ => g.1 j a b) (fun j a b c _ => g.2.1 j a b c) (g.2.2.1 9 (by decide)) ?_ ?_ ?_ ?_ ?_, g.2.2.2.1, g.2.2.2.2⟩
  all_goals rw [f50]
theorem J_mfr {I F I' F' : zI} (h : J I F) (g : mfr I F I' F') : J I' F' := by
  obtain ⟨⟨g1, g2, g3, g4, g5⟩, g6, g7⟩ := g
  have e : hl I' F' = hl I F := hl_eq (fun j a b => g1 j (by omega)) (g2 8 (by decide))
  refine ⟨K_fr h.1 (fun j _ _ c => g1 j (by omega)) (fun j _ _ _ c => g2 j c) (by rw [g2 0 (by decide)]) g3 g4 g5 g6 g7, ?_, ?_⟩
  · have h2 := h.2.1
    unfold JP getC at h2 ⊢
    rw [e, g2 17 (by decide)]
    have r : ∀ j, j ≤ 56 → I' j = I j := fun j hj => g1 j (by omega)
    simp only [r, Nat.reduceLeDiff, Nat.reduceAdd] at *
    exact h2
  · have h3 := h.2.2
    unfold JC at h3 ⊢
    rw [e, g2 0 (by decide), g1 35 (by omega)]
    exact h3
