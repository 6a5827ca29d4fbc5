/-! the joint invariant: copy, write -/
theorem nle_lt {x : Int32} : (¬ 0 ≤ x) ↔ x < 0 := Int32.not_le
theorem span_le {a b l : Int32} (hl : vp_in l 61) (h : 0 ≤ a ∧ 0 ≤ b ∧ a ≤ l - b) : a.toNatClampNeg + b.toNatClampNeg ≤ l.toNatClampNeg := by
  obtain ⟨h1, h2, h3⟩ := h
  rw [vp_in_iff] at hl
  rw [Int32.le_iff_toInt_le] at h1 h2 h3
  have e0 : (0 : Int32).toInt = 0 := rfl
  rw [e0] at h1 h2
  have hb := Int32.toInt_lt b
  rw [Int32.toInt_sub, Int.bmod_eq_of_le (by omega) (by omega)] at h3
  unfold Int32.toNatClampNeg
  omega
theorem u_copy {I F : zI} (h : J I F) (s i t j m : Int32) : (x_copy s i t j m I F).1 = (m_copy s i t j m (x_copy s i t j m I F).2.1 (x_copy s i t j m I F).2.2).1 ∧ J (m_copy s i t j m (x_copy s i t j m I F).2.1 (x_copy s i t j m I F).2.2).2.1 (m_copy s i t j m (x_copy s i t j m I F).2.1 (x_copy s i t j m I F).2.2).2.2 := by
  rcases (Classical.em ((0 ≤ s ∧ s < 4) ∧ (0 ≤ t ∧ t < 4))).symm with hc | hc
  · have x1 : x_copy s i t j m I F = (-2, I, F) := if_neg hc
    rw [x1]
    have x2 : m_copy s i t j m I F = (-2, I, F) := if_neg hc
    rw [x2]
    exact ⟨rfl, h⟩
  have sv : vp_in s 4 := by rw [← vp_iff (by decide)]; exact hc.1
  have tv : vp_in t 4 := by rw [← vp_iff (by decide)]; exact hc.2
  have s2 := (zn_of sv (by decide)).2
  have t2 := (zn_of tv (by decide)).2
  have w := h.1.2.2.2.2.1 _ s2
  have y := h.1.2.2.2.2.1 _ t2
  have wl := JW_lost w
  have yl := JW_lost y
  rw [← z_snn, nle_lt] at wl yl
  rw [← z_snn] at w y
  by_cases h0 : F (z_sn s) 0 = -1 ∨ F (z_sn t) 0 = -1
  · have x1 : x_copy s i t j m I F = (-11, I, zu2 F 0 9 1) := (if_pos hc).trans (if_pos h0)
    rw [x1]
    have x2 : m_copy s i t j m I (zu2 F 0 9 1) = (-11, I, zu2 (zu2 F 0 9 1) 50 4 1) := (if_pos hc).trans (if_pos (h0.imp wl.mp yl.mp))
    rw [x2]
    exact ⟨rfl, J_find h 1⟩
  have h0' : ¬ (I 51 s.toNatClampNeg < 0 ∨ I 51 t.toNatClampNeg < 0) := fun z => h0 (z.imp wl.mpr yl.mpr)
  by_cases h1 : ¬ F (z_sn s) 0 = F (z_sn t) 0
  · have x1 : x_copy s i t j m I F = (-14, I, zu2 F 0 9 4) := (if_pos hc).trans ((if_neg h0).trans (if_pos h1))
    rw [x1]
    have x2 : m_copy s i t j m I (zu2 F 0 9 4) = (-14, I, zu2 (zu2 F 0 9 4) 50 4 4) := (if_pos hc).trans ((if_neg h0').trans (if_pos (by rw [← w.1, ← y.1]; exact h1)))
    rw [x2]
    exact ⟨rfl, J_find h 4⟩
  have h1' : ¬ ¬ I 51 s.toNatClampNeg = I 51 t.toNatClampNeg := by rw [← w.1, ← y.1]; exact h1
  obtain ⟨w1, w2, w3, w4, w5⟩ := w
  obtain ⟨y1, y2, y3, y4, y5⟩ := y
  obtain ⟨w6, w7⟩ := w5 (fun z => h0 (Or.inl (w1.trans z)))
  obtain ⟨y6, y7⟩ := y5 (fun z => h0 (Or.inr (y1.trans z)))
  by_cases h2 : (0 ≤ i ∧ 0 ≤ m ∧ i ≤ F (z_sn s) 1 - m) ∧ (0 ≤ j ∧ 0 ≤ m ∧ j ≤ F (z_sn t) 1 - m)
  · have h2' : (0 ≤ i ∧ 0 ≤ m ∧ i ≤ I 52 s.toNatClampNeg - m) ∧ (0 ≤ j ∧ 0 ≤ m ∧ j ≤ I 52 t.toNatClampNeg - m) := by rw [← w6, ← y6]; exact h2
    have q1 := span_le w4 h2'.1
    have q2 := span_le y4 h2'.2
    have x1 : x_copy s i t j m I F = (1, va_up I (z_sn t + 1) (va_cpy (I (z_sn s + 1)) (I (z_sn t + 1)) i.toNatClampNeg j.toNatClampNeg m.toNatClampNeg), F) := (if_pos hc).trans ((if_neg h0).trans ((if_neg h1).trans (if_pos h2)))
    rw [x1]
    have x2 : ∀ I1 F1, I1 51 = I 51 → I1 52 = I 52 → m_copy s i t j m I1 F1 = (1, va_up (va_up I1 54 (m_c1 (I1 53) (60 * s.toNatClampNeg + i.toNatClampNeg) m.toNatClampNeg (I1 54))) 53 (m_c2 (m_c1 (I1 53) (60 * s.toNatClampNeg + i.toNatClampNeg) m.toNatClampNeg (I1 54)) (60 * t.toNatClampNeg + j.toNatClampNeg) m.toNatClampNeg (I1 53)), F1) := by
      intro I1 F1 a b
      exact (if_pos hc).trans ((if_neg (by rw [a]; exact h0')).trans ((if_neg (by rw [a]; exact h1')).trans (if_pos (by rw [b]; exact h2'))))
    simp only [z_snn] at *
    rw [x2 _ _ (va_ne (by omega)) (va_ne (by omega))]
    have yy4 := (zn_of y4 (by decide)).2
    generalize s.toNatClampNeg = a at *
    generalize t.toNatClampNeg = b at *
    generalize i.toNatClampNeg = i at *
    generalize j.toNatClampNeg = j at *
    generalize m.toNatClampNeg = m at *
    dsimp only
    rw [va_ne (show ¬ 53 = 42 + 2 * b + 1 by omega), va_ne (show ¬ 54 = 42 + 2 * b + 1 by omega)]
    refine ⟨rfl, KW h (fun k hk => ?_) (fun _ _ => rfl) rfl (JW_set h.1.2.2.2.2.1 b (fun u hu hn => ⟨rfl, ?_, ?_, ?_, fun k hk => ?_⟩) ⟨?_, ?_, y3, ?_, fun z => ?_⟩)⟩
    · rw [va_ne (by omega), va_ne (by omega), va_ne (by omega)]
    · rw [va_ne (by omega), va_ne (by omega), va_ne (by omega)]
    · rw [va_ne (by omega), va_ne (by omega), va_ne (by omega)]
    · rw [va_ne (by omega), va_ne (by omega), va_ne (by omega)]
    · rw [va_eq, m_c2_at, if_neg (by omega)]
    · rw [va_ne (by omega), va_ne (by omega), va_ne (by omega)]; exact y1
    · rw [va_ne (by omega), va_ne (by omega), va_ne (by omega)]; exact y2
    · rw [va_ne (by omega), va_ne (by omega), va_ne (by omega)]; exact y4
    · rw [va_ne (show ¬ 52 = 53 by omega), va_ne (show ¬ 52 = 54 by omega), va_ne (show ¬ 52 = 42 + 2 * b + 1 by omega)]
      refine ⟨y6, fun k hk => ?_⟩
      rw [va_ne (show ¬ 42 + 2 * b + 1 = 53 by omega), va_ne (show ¬ 42 + 2 * b + 1 = 54 by omega), va_eq, va_eq, m_c2_at]
      unfold va_cpy
      by_cases hj : j ≤ k ∧ k < j + m
      · rw [if_pos hj, if_pos (by omega), m_c1_at, if_pos (by omega), w7 _ (by omega)]
        congr 1
        omega
      · rw [if_neg hj, if_neg (by omega)]
        exact y7 k hk
  · have h2' : ¬ ((0 ≤ i ∧ 0 ≤ m ∧ i ≤ I 52 s.toNatClampNeg - m) ∧ (0 ≤ j ∧ 0 ≤ m ∧ j ≤ I 52 t.toNatClampNeg - m)) := by rw [← w6, ← y6]; exact h2
    have x1 : x_copy s i t j m I F = (-12, I, zu2 F 0 9 2) := (if_pos hc).trans ((if_neg h0).trans ((if_neg h1).trans (if_neg h2)))
    rw [x1]
    have x2 : m_copy s i t j m I (zu2 F 0 9 2) = (-12, I, zu2 (zu2 F 0 9 2) 50 4 2) := (if_pos hc).trans ((if_neg h0').trans ((if_neg h1').trans (if_neg h2')))
    rw [x2]
    exact ⟨rfl, J_find h 2⟩
/-! write -/
theorem x_wr_at (o : Nat) (ho : 42 ≤ o) (p f : Int32) : ∀ r d I, d + r ≤ 24 → (∀ j, ¬ j = o + 1 → x_wr o p f r d I j = I j) ∧ ∀ k, x_wr o p f r d I (o + 1) k = if d ≤ k ∧ k < d + r then z_cut f (I 25 (nI k * 8 + p).toNatClampNeg) else I (o + 1) k := by
  intro r
  induction r with
  | zero => exact fun d I _ => ⟨fun _ _ => rfl, fun k => (if_neg (by omega)).symm⟩
  | succ r ih =>
    intro d I hd
    obtain ⟨h1, h2⟩ := ih (d + 1) (zu2 I (o + 1) d (z_cut f (I 25 (nI d * 8 + p).toNatClampNeg))) (by omega)
    refine ⟨fun j hj => ?_, fun k => ?_⟩
    · rw [x_wr, h1 j hj, zu_ne hj]
    · rw [x_wr, h2 k, zu_ne (show ¬ 25 = o + 1 by omega), zu_eq]
      by_cases c : d + 1 ≤ k ∧ k < d + 1 + r
      · rw [if_pos c, if_pos (by omega)]
      · rw [if_neg c]
        by_cases e : k = d
        · subst e
          rw [pk_us, if_pos (by omega)]
        · rw [pk_un e, if_neg (by omega)]
theorem J_shok {I F : zI} (h : J I F) : shok F := ⟨(h.1.2.2.2.2.1 0 (by decide)).2.2.1, (h.1.2.2.2.2.1 1 (by decide)).2.2.1, (h.1.2.2.2.2.1 2 (by decide)).2.2.1, (h.1.2.2.2.2.1 3 (by decide)).2.2.1⟩
theorem J_msh {I F : zI} (h : J I F) : msh I := fun s hs => (h.1.2.2.2.2.1 s hs).2.2.2.1
theorem J_pok {I F : zI} (h : J I F) : pok I F := JP_pok (J_XJ h)
