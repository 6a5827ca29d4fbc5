/-! the joint invariant: sheets -/
theorem KW {I F I' F' : zI} (h : J I F) (r1 : ∀ j, (j < 42 ∨ j = 55 ∨ j = 56 ∨ j = 60 ∨ j = 75) → I' j = I j) (r2 : ∀ j, j < 42 → F' j = F j) (r5 : F' 50 = F 50) (w : JW I' F') : J I' F' := by
  obtain ⟨⟨h1, h2, h3, h4, h5, h6⟩, h7⟩ := h
  have t := TH_fr ⟨h1, h2⟩ (fun j hj => r1 j (by omega)) (fun j a b => r2 j (by omega)) (by rw [r2 8 (by omega)]) (by rw [r2 8 (by omega)])
  refine ⟨⟨t.1, t.2, ?_, ?_, w, ?_⟩, ?_⟩
  · exact JE_fr h3 (r1 15 (by omega)) (r1 16 (by omega)) (r1 60 (by omega)) (by rw [r2 8 (by omega)]) r5
  · exact JS_fr h4 (r1 37 (by omega)) (r1 38 (by omega)) (r1 39 (by omega)) (r1 75 (by omega)) (r2 36 (by omega)) r5
  · exact JL_fr h6 (by rw [r2 0 (by omega)]) r5 (by rw [r2 8 (by omega)]) (by rw [r2 8 (by omega)]) (by rw [r2 8 (by omega)])
  · exact JPC_fr h7 (fun j hj => r1 j (by omega)) (r2 17 (by omega)) (r2 8 (by omega)) (by rw [r2 0 (by omega)])
theorem JW_set {I F I' F' : zI} (h : JW I F) (s : Nat) (a : ∀ t, t < 4 → ¬ t = s → F' (42 + 2 * t) = F (42 + 2 * t) ∧ I' (42 + 2 * t + 1) = I (42 + 2 * t + 1) ∧ I' 51 t = I 51 t ∧ I' 52 t = I 52 t ∧ ∀ i, i < 60 → I' 53 (60 * t + i) = I 53 (60 * t + i)) (b : JW1 s (F' (42 + 2 * s)) (I' (42 + 2 * s + 1)) (I' 51 s) (I' 52 s) (I' 53)) : JW I' F' := by
  intro t ht
  by_cases e : t = s
  · subst e; exact b
  · obtain ⟨a1, a2, a3, a4, a5⟩ := a t ht e
    obtain ⟨w1, w2, w3, w4, w5⟩ := h t ht
    refine ⟨by rw [a1, a3]; exact w1, by rw [a3]; exact w2, by rw [a1]; exact w3, by rw [a4]; exact w4, fun z => ?_⟩
    rw [a3] at z
    obtain ⟨w6, w7⟩ := w5 z
    refine ⟨by rw [a1, a4]; exact w6, fun i hi => ?_⟩
    rw [a4] at hi
    have := (zn_of w4 (by decide)).2
    rw [a2, a5 i (by omega)]
    exact w7 i hi
theorem m_zero_at (s : Nat) (f : zr) (k : Nat) : ∀ n, m_zero s n f k = if 60 * s ≤ k ∧ k < 60 * s + n then 0 else f k := by
  intro n
  induction n with
  | zero => exact (if_neg (by omega)).symm
  | succ n ih =>
    show upd (m_zero s n f) (60 * s + n) 0 k = _
    by_cases e : k = 60 * s + n
    · subst e
      rw [pk_us, if_pos (by omega)]
    · rw [pk_un e, ih]
      by_cases c : 60 * s ≤ k ∧ k < 60 * s + n
      · rw [if_pos c, if_pos (by omega)]
      · rw [if_neg c, if_neg (by omega)]
theorem m_c1_at (f g : zr) (b k : Nat) : ∀ n, m_c1 f b n g k = if k < n then f (b + k) else g k := by
  intro n
  induction n with
  | zero => exact (if_neg (by omega)).symm
  | succ n ih =>
    show upd (m_c1 f b n g) n (f (b + n)) k = _
    by_cases e : k = n
    · subst e
      rw [pk_us, if_pos (by omega)]
    · rw [pk_un e, ih]
      by_cases c : k < n
      · rw [if_pos c, if_pos (by omega)]
      · rw [if_neg c, if_neg (by omega)]
theorem m_c2_at (f g : zr) (b k : Nat) : ∀ n, m_c2 f b n g k = if b ≤ k ∧ k < b + n then f (k - b) else g k := by
  intro n
  induction n with
  | zero => exact (if_neg (by omega)).symm
  | succ n ih =>
    show upd (m_c2 f b n g) (b + n) (f n) k = _
    by_cases e : k = b + n
    · subst e
      rw [pk_us, if_pos (by omega)]
      congr 1
      omega
    · rw [pk_un e, ih]
      by_cases c : b ≤ k ∧ k < b + n
      · rw [if_pos c, if_pos (by omega)]
      · rw [if_neg c, if_neg (by omega)]
theorem m_wr_at (g : zr) (s p : Nat) (f : Int32) (x : zr) (k : Nat) : ∀ n, m_wr g s p f n x k = if 60 * s ≤ k ∧ k < 60 * s + n then z_cut f (g (8 * (k - 60 * s) + p)) else x k := by
  intro n
  induction n with
  | zero => exact (if_neg (by omega)).symm
  | succ n ih =>
    show upd (m_wr g s p f n x) (60 * s + n) _ k = _
    by_cases e : k = 60 * s + n
    · subst e
      rw [pk_us, if_pos (by omega), show 60 * s + n - 60 * s = n by omega]
    · rw [pk_un e, ih]
      by_cases c : 60 * s ≤ k ∧ k < 60 * s + n
      · rw [if_pos c, if_pos (by omega)]
      · rw [if_neg c, if_neg (by omega)]
theorem vp60 {m : Int32} (h0 : ¬ m < 0) (h : m ≤ 60) : vp_in m 61 := by
  rw [vp_in_iff]
  rw [Int32.lt_iff_toInt_lt] at h0
  rw [Int32.le_iff_toInt_le] at h
  have e : (60 : Int32).toInt = 60 := rfl
  have e0 : (0 : Int32).toInt = 0 := rfl
  omega
theorem u_sheet {I F : zI} (h : J I F) (s f m : Int32) : (x_sheet s f m I F).1 = (m_sheet s f m (x_sheet s f m I F).2.1 (x_sheet s f m I F).2.2).1 ∧ J (m_sheet s f m (x_sheet s f m I F).2.1 (x_sheet s f m I F).2.2).2.1 (m_sheet s f m (x_sheet s f m I F).2.1 (x_sheet s f m I F).2.2).2.2 := by
  rcases (Classical.em ((0 ≤ s ∧ s < 4) ∧ (0 ≤ f ∧ f < 3) ∧ m ≤ 60)).symm with hc | hc
  · have x1 : x_sheet s f m I F = (-2, I, F) := if_neg hc
    rw [x1]
    have x2 : m_sheet s f m I F = (-2, I, F) := if_neg hc
    rw [x2]
    exact ⟨rfl, h⟩
  by_cases h0 : m < 0
  · have x1 : x_sheet s f m I F = (-15, I, zu2 F 0 9 5) := (if_pos hc).trans (if_pos h0)
    rw [x1]
    have x2 : m_sheet s f m I (zu2 F 0 9 5) = (-15, I, zu2 (zu2 F 0 9 5) 50 4 5) := (if_pos hc).trans (if_pos h0)
    rw [x2]
    exact ⟨rfl, J_find h 5⟩
  have sv : vp_in s 4 := by rw [← vp_iff (by decide)]; exact hc.1
  have s2 := (zn_of sv (by decide)).2
  have mv := vp60 h0 hc.2.2
  have m2 := (zn_of mv (by decide)).2
  have x1 : x_sheet s f m I F = (m, va_up I (z_sn s + 1) (z_fill 60 0 (I (z_sn s + 1))), zu2 (zu2 F (z_sn s) 0 f) (z_sn s) 1 m) := (if_pos hc).trans (if_neg h0)
  rw [x1]
  rw [z_snn]
  have x2 : ∀ I1 F1, m_sheet s f m I1 F1 = (m, va_up (zu2 (zu2 I1 51 s.toNatClampNeg f) 52 s.toNatClampNeg m) 53 (m_zero s.toNatClampNeg m.toNatClampNeg (I1 53)), F1) := fun I1 F1 => (if_pos hc).trans (if_neg h0)
  dsimp only
  rw [x2]
  have fo : f = -1 ∨ f = 0 ∨ f = 1 ∨ f = 2 := Or.inr (w3_or hc.2.1)
  generalize s.toNatClampNeg = t at *
  rw [va_ne (by omega)]
  refine ⟨rfl, KW h (fun j hj => ?_) (fun j hj => ?_) ?_ (JW_set h.1.2.2.2.2.1 t (fun u hu hn => ⟨?_, ?_, ?_, ?_, fun i hi => ?_⟩) ⟨?_, ?_, ?_, ?_, fun _ => ⟨?_, fun i hi => ?_⟩⟩)⟩
  all_goals dsimp only
  · rw [va_ne (by omega), zu_ne (by omega), zu_ne (by omega), va_ne (by omega)]
  · rw [zu_ne (by omega), zu_ne (by omega)]
  · rw [zu_ne (by omega), zu_ne (by omega)]
  · rw [zu_ne (by omega), zu_ne (by omega)]
  · rw [va_ne (by omega), zu_ne (by omega), zu_ne (by omega), va_ne (by omega)]
  · rw [va_ne (by omega), zu_ne (by omega), zu_eq, pk_un hn, va_ne (by omega)]
  · rw [va_ne (by omega), zu_eq, pk_un hn, zu_ne (by omega), va_ne (by omega)]
  · rw [va_eq, m_zero_at, if_neg (by omega)]
  · rw [zu_eq, pk_un (by decide), zu_eq, pk_us, va_ne (by omega), zu_ne (by omega), zu_eq, pk_us]
  · rw [va_ne (by omega), zu_ne (by omega), zu_eq, pk_us]
    exact fo
  · rw [zu_eq, pk_us]
    exact mv
  · rw [va_ne (by omega), zu_eq, pk_us]
    exact mv
  · rw [zu_eq, pk_us, va_ne (by omega), zu_eq, pk_us]
  · dsimp only at hi
    rw [va_ne (show ¬ (52 : Nat) = 53 by decide), zu_eq, pk_us] at hi
    rw [va_ne (by omega), zu_ne (by omega), zu_ne (by omega), va_eq, va_eq, m_zero_at, if_pos (by omega)]
    exact if_pos (by omega)
theorem u_lose {I F : zI} (h : J I F) (s : Int32) : (x_lose s I F).1 = (m_lose s (x_lose s I F).2.1 (x_lose s I F).2.2).1 ∧ J (m_lose s (x_lose s I F).2.1 (x_lose s I F).2.2).2.1 (m_lose s (x_lose s I F).2.1 (x_lose s I F).2.2).2.2 := by
  rcases (Classical.em (0 ≤ s ∧ s < 4)).symm with hs | hs
  · have x1 : x_lose s I F = (-2, I, F) := if_neg hs
    rw [x1]
    have x2 : m_lose s I F = (-2, I, F) := if_neg hs
    rw [x2]
    exact ⟨rfl, h⟩
  have sv : vp_in s 4 := by rw [← vp_iff (by decide)]; exact hs
  have s2 := (zn_of sv (by decide)).2
  have w := h.1.2.2.2.2.1 _ s2
  have wl := JW_lost w
  rw [← z_snn] at w wl
  by_cases h0 : F (z_sn s) 0 = -1
  · have x1 : x_lose s I F = (-11, I, zu2 F 0 9 1) := (if_pos hs).trans (if_pos h0)
    rw [x1]
    have x2 : m_lose s I (zu2 F 0 9 1) = (-11, I, zu2 (zu2 F 0 9 1) 50 4 1) := (if_pos hs).trans (if_neg (wl.mp h0))
    rw [x2]
    exact ⟨rfl, J_find h 1⟩
  have h0' : 0 ≤ I 51 s.toNatClampNeg := Classical.byContradiction fun z => h0 (wl.mpr z)
  have hx : ¬ I 51 s.toNatClampNeg = -1 := fun z => h0 (w.1.trans z)
  obtain ⟨w1, w2, w3, w4, w5⟩ := w
  obtain ⟨w6, w7⟩ := w5 hx
  have x1 : x_lose s I F = (F (z_sn s) 1, va_up I (z_sn s + 1) (z_fill 60 0 (I (z_sn s + 1))), zu2 (zu2 F (z_sn s) 0 (-1)) (z_sn s) 1 0) := (if_pos hs).trans (if_neg h0)
  rw [x1, w6]
  rw [z_snn]
  have x2 : ∀ I1 F1, I1 51 = I 51 → m_lose s I1 F1 = (I1 52 s.toNatClampNeg, zu2 I1 51 s.toNatClampNeg (-1), F1) := fun I1 F1 e => (if_pos hs).trans (if_pos (by rw [e]; exact h0'))
  dsimp only
  rw [x2 _ _ (va_ne (by omega))]
  generalize s.toNatClampNeg = t at *
  dsimp only
  rw [va_ne (by omega)]
  refine ⟨rfl, KW h (fun j hj => ?_) (fun j hj => ?_) ?_ (JW_set h.1.2.2.2.2.1 t (fun u hu hn => ⟨?_, ?_, ?_, ?_, fun i hi => ?_⟩) ⟨?_, ?_, ?_, ?_, fun z => ?_⟩)⟩
  · rw [zu_ne (by omega), va_ne (by omega)]
  · rw [zu_ne (by omega), zu_ne (by omega)]
  · rw [zu_ne (by omega), zu_ne (by omega)]
  · rw [zu_ne (by omega), zu_ne (by omega)]
  · rw [zu_ne (by omega), va_ne (by omega)]
  · rw [zu_eq, pk_un hn, va_ne (by omega)]
  · rw [zu_ne (by omega), va_ne (by omega)]
  · rw [zu_ne (by omega), va_ne (by omega)]
  · rw [zu_eq, pk_un (by decide), zu_eq, pk_us, zu_eq, pk_us]
  · rw [zu_eq, pk_us]; exact Or.inl rfl
  · rw [zu_eq, pk_us]; exact vp_in_nI (n := 0) (by decide) (by decide)
  · rw [zu_ne (by omega), va_ne (by omega)]; exact w4
  · rw [zu_eq, pk_us] at z
    exact absurd rfl z
theorem fi_eq {I F : zI} {s f i : Int32} (w : JW1 s.toNatClampNeg (F (z_sn s)) (I (z_sn s + 1)) (I 51 s.toNatClampNeg) (I 52 s.toNatClampNeg) (I 53)) : x_fi s f i F = m_fi s.toNatClampNeg f i I := by
  have wl := JW_lost w
  obtain ⟨w1, w2, w3, w4, w5⟩ := w
  unfold x_fi m_fi
  by_cases h0 : F (z_sn s) 0 = -1
  · rw [if_pos h0, if_neg (wl.mp h0)]
  · have h0' : 0 ≤ I 51 s.toNatClampNeg := Classical.byContradiction fun z => h0 (wl.mpr z)
    obtain ⟨w6, w7⟩ := w5 (fun z => h0 (w1.trans z))
    rw [if_neg h0, if_pos h0', w1]
    by_cases h1 : I 51 s.toNatClampNeg = f
    · rw [if_neg (fun z => z h1), if_pos h1, w6]
      by_cases h2 : 0 ≤ i
      · by_cases h3 : i < I 52 s.toNatClampNeg
        · rw [if_pos ⟨h2, h3⟩, if_pos ⟨h2, (sub1_lt w4 h2).mpr h3⟩]
        · rw [if_neg (fun z => h3 z.2), if_neg (fun z => h3 ((sub1_lt w4 h2).mp z.2))]
      · rw [if_neg (fun z => h2 z.1), if_neg (fun z => h2 z.1)]
    · rw [if_pos h1, if_neg h1]
theorem u_get {I F : zI} (h : J I F) (s f i : Int32) : (x_get s f i I F).1 = (m_get s f i (x_get s f i I F).2.1 (x_get s f i I F).2.2).1 ∧ J (m_get s f i (x_get s f i I F).2.1 (x_get s f i I F).2.2).2.1 (m_get s f i (x_get s f i I F).2.1 (x_get s f i I F).2.2).2.2 := by
  rcases (Classical.em ((0 ≤ s ∧ s < 4) ∧ (0 ≤ f ∧ f < 3))).symm with hc | hc
  · have x1 : x_get s f i I F = (-2147483648, I, F) := if_neg hc
    rw [x1]
    have x2 : m_get s f i I F = (-2147483648, I, F) := if_neg hc
    rw [x2]
    exact ⟨rfl, h⟩
  have sv : vp_in s 4 := by rw [← vp_iff (by decide)]; exact hc.1
  have s2 := (zn_of sv (by decide)).2
  have w := h.1.2.2.2.2.1 _ s2
  rw [← z_snn] at w
  have e := fi_eq (f := f) (i := i) w
  by_cases h0 : x_fi s f i F = 0
  · have x1 : x_get s f i I F = (I (z_sn s + 1) i.toNatClampNeg, I, F) := (if_pos hc).trans (if_pos h0)
    rw [x1]
    have x2 : m_get s f i I F = (I 53 (60 * s.toNatClampNeg + i.toNatClampNeg), I, F) := (if_pos hc).trans (if_pos (e.symm.trans h0))
    rw [x2]
    refine ⟨?_, h⟩
    obtain ⟨w1, w2, w3, w4, w5⟩ := w
    unfold x_fi at h0
    by_cases c1 : F (z_sn s) 0 = -1
    · rw [if_pos c1] at h0; exact absurd h0 (by decide)
    · obtain ⟨w6, w7⟩ := w5 (fun z => c1 (w1.trans z))
      rw [if_neg c1] at h0
      by_cases c2 : F (z_sn s) 0 = f
      · rw [if_neg (fun z => z c2)] at h0
        by_cases c3 : 0 ≤ i ∧ i < F (z_sn s) 1
        · refine w7 _ ?_
          rw [← w6]
          have := c3.2
          obtain ⟨n, hn, en⟩ := vp_in_of w3 (by decide)
          have iv := vp_bel w3 (by decide) c3
          obtain ⟨i1, i2⟩ := zn_of iv (by decide)
          rw [en, i1, znlt (by omega) (by omega)] at this
          rw [en, nI_clamp (by omega)]
          exact this
        · rw [if_neg c3] at h0; exact absurd h0 (by decide)
      · rw [if_pos c2] at h0; exact absurd h0 (by decide)
  · have x1 : x_get s f i I F = (-2147483648, I, zu2 F 0 9 (x_fi s f i F)) := (if_pos hc).trans (if_neg h0)
    rw [x1]
    have x2 : m_get s f i I (zu2 F 0 9 (x_fi s f i F)) = (-2147483648, I, zu2 (zu2 F 0 9 (x_fi s f i F)) 50 4 (m_fi s.toNatClampNeg f i I)) := (if_pos hc).trans (if_neg (fun z => h0 (e.trans z)))
    rw [x2, ← e]
    exact ⟨rfl, J_find h _⟩
theorem uj_lay {I F : zI} (h : J I F) (s f i v : Int32) : (x_lay s f i v I F).1 = (m_lay s f i v (x_lay s f i v I F).2.1 (x_lay s f i v I F).2.2).1 ∧ J (m_lay s f i v (x_lay s f i v I F).2.1 (x_lay s f i v I F).2.2).2.1 (m_lay s f i v (x_lay s f i v I F).2.1 (x_lay s f i v I F).2.2).2.2 := by
  rcases (Classical.em ((0 ≤ s ∧ s < 4) ∧ (0 ≤ f ∧ f < 3))).symm with hc | hc
  · have x1 : x_lay s f i v I F = (-2, I, F) := if_neg hc
    rw [x1]
    have x2 : m_lay s f i v I F = (-2, I, F) := if_neg hc
    rw [x2]
    exact ⟨rfl, h⟩
  have sv : vp_in s 4 := by rw [← vp_iff (by decide)]; exact hc.1
  have s2 := (zn_of sv (by decide)).2
  have w := h.1.2.2.2.2.1 _ s2
  rw [← z_snn] at w
  have e := fi_eq (f := f) (i := i) w
  by_cases h0 : x_fi s f i F = 0
  · have iv : vp_in i 60 := fi0 (a := F (z_sn s) 0) (f := f) w.2.2.1 h0
    have i2 := (zn_of iv (by decide)).2
    have x1 : x_lay s f i v I F = (1, zu2 I (z_sn s + 1) i.toNatClampNeg (z_cut (F (z_sn s) 0) v), F) := (if_pos hc).trans (if_pos h0)
    have ef : F (z_sn s) 0 = f := by
      unfold x_fi at h0
      by_cases c1 : F (z_sn s) 0 = -1
      · rw [if_pos c1] at h0; exact absurd h0 (by decide)
      · rw [if_neg c1] at h0
        refine Classical.byContradiction fun c2 => ?_
        rw [if_pos c2] at h0
        exact absurd h0 (by decide)
    rw [ef] at x1
    rw [x1]
    have x2 : ∀ I1 F1, I1 51 = I 51 → I1 52 = I 52 → m_lay s f i v I1 F1 = (1, zu2 I1 53 (60 * s.toNatClampNeg + i.toNatClampNeg) (z_cut f v), F1) := by
      intro I1 F1 a b
      refine (if_pos hc).trans (if_pos ?_)
      rw [← e.symm.trans h0]
      unfold m_fi
      rw [a, b]
    rw [z_snn] at *
    dsimp only
    rw [x2 _ _ (zu_ne (by omega)) (zu_ne (by omega))]
    obtain ⟨w1, w2, w3, w4, w5⟩ := w
    generalize s.toNatClampNeg = t at *
    generalize i.toNatClampNeg = p at *
    refine ⟨rfl, KW h (fun j hj => ?_) (fun j hj => rfl) rfl (JW_set h.1.2.2.2.2.1 t (fun u hu hn => ⟨rfl, ?_, ?_, ?_, fun q hq => ?_⟩) ⟨?_, ?_, w3, ?_, fun z => ?_⟩)⟩
    all_goals dsimp only at *
    · rw [zu_ne (by omega), zu_ne (by omega)]
    · rw [zu_ne (by omega), zu_ne (by omega)]
    · rw [zu_ne (by omega), zu_ne (by omega)]
    · rw [zu_ne (by omega), zu_ne (by omega)]
    · rw [zu_eq, pk_un (by omega), zu_ne (by omega)]
    · rw [zu_ne (by omega), zu_ne (by omega)]; exact w1
    · rw [zu_ne (by omega), zu_ne (by omega)]; exact w2
    · rw [zu_ne (by omega), zu_ne (by omega)]; exact w4
    · rw [zu_ne (by omega), zu_ne (by omega)] at z
      obtain ⟨w6, w7⟩ := w5 z
      rw [show zu2 (zu2 I (42 + 2 * t + 1) p (z_cut f v)) 53 (60 * t + p) (z_cut f v) 52 = I 52 by rw [zu_ne (by omega), zu_ne (by omega)]]
      refine ⟨w6, fun q hq => ?_⟩
      rw [zu_ne (by omega), zu_eq, zu_eq, zu_ne (by omega)]
      by_cases eq : q = p
      · subst eq
        rw [pk_us, pk_us]
      · rw [pk_un eq, pk_un (by omega)]
        exact w7 q hq
  · have x1 : x_lay s f i v I F = (-10 - x_fi s f i F, I, zu2 F 0 9 (x_fi s f i F)) := (if_pos hc).trans (if_neg h0)
    rw [x1]
    have x2 : m_lay s f i v I (zu2 F 0 9 (x_fi s f i F)) = (-10 - m_fi s.toNatClampNeg f i I, I, zu2 (zu2 F 0 9 (x_fi s f i F)) 50 4 (m_fi s.toNatClampNeg f i I)) := (if_pos hc).trans (if_neg (fun z => h0 (e.trans z)))
    rw [x2, ← e]
    exact ⟨rfl, J_find h _⟩
