/-! the joint invariant: type, wipe, undo -/
theorem w_cap {x : Int32} {n c : Nat} (hx : x = nI n) (hn : n ≤ c) (hc : c < 2 ^ 31) : (nI c ≤ x) ↔ x = nI c := by
  subst hx
  rw [znle hc (by omega)]
  constructor
  · intro h
    rw [show n = c by omega]
  · intro h
    have := congrArg Int32.toNatClampNeg h
    rw [nI_clamp (by omega), nI_clamp hc] at this
    omega
theorem upd_lt {f : zr} {n j : Nat} {b : Int32} (h : ¬ j = n) : upd f n b j = f j := if_neg h
theorem upd_at {f : zr} {n : Nat} {b : Int32} : upd f n b n = b := if_pos rfl
theorem nI_prd {n : Nat} (h : 0 < n) (h2 : n < 2 ^ 31) : nI n - 1 = nI (n - 1) := by
  have : nI n = nI (n - 1) + 1 := by rw [nI_1]; congr 1; omega
  rw [this]
  generalize nI (n - 1) = y
  grind
theorem u_t2 {I F I1 I2 : zI} (h : K I F) (n : Nat) (hn : n ≤ 23) (c1 : ∀ j, ¬ j = 3 → I1 j = I j) (c2 : ∀ j, ¬ j = 55 → ¬ j = 56 → I2 j = (x_in 2 I1 (x_len 2 (nI n) I1 F)).1 j) (c3 : I2 56 0 = nI n) (c4 : I2 56 1 = I 56 1) (c5 : I2 56 2 = I 56 2) (c6 : ∀ j, 32 ≤ j → I2 55 j = I 55 j) (c7 : ∀ j, j < n → I1 3 j = I2 55 j) : J I2 (x_in 2 I1 (x_len 2 (nI n) I1 F)).2 := by
  have i3 : I2 3 = I1 3 := c2 3 (by decide) (by decide)
  refine J_new (KT2 h n hn (fun j a b c d e => ?_) (fun j a b c d => ?_) rfl (fun i hi => ?_) rfl rfl rfl c3 c4 c5 c6 (fun j hj => ?_) ?_ rfl ?_ ?_) rfl rfl
  · rw [c2 j d e]
    show va_up (va_up I1 9 _) 10 _ j = _
    rw [va_ne c, va_ne b]
    exact c1 j a
  · show zu2 (zu2 (zu2 (zu2 (zu2 F 2 3 _) 2 4 _) 8 0 _) 17 1 (-1)) 0 5 1 j = _
    rw [zu_ne a, zu_ne d, zu_ne c, zu_ne b, zu_ne b]
  · show zu2 (x_len 2 (nI n) I1 F) 8 0 _ 8 i = _
    rw [zu_eq, pk_un hi]
    rfl
  · rw [i3]; exact c7 j hj
  · rw [i3]
    show tq_ff 2 (I1 3) (nI n).toNatClampNeg (nI n).toNatClampNeg 0 0 = _
    rw [nI_clamp (by omega)]
  · rw [i3, c2 9 (by decide) (by decide), ← c1 9 (by decide)]
    rfl
  · rw [i3, c2 10 (by decide) (by decide), ← c1 10 (by decide)]
    rfl
theorem u_t4 {I F I1 I2 : zI} (h : K I F) (n : Nat) (hn : n ≤ 31) (c1 : ∀ j, ¬ j = 5 → I1 j = I j) (c2 : ∀ j, ¬ j = 55 → ¬ j = 56 → I2 j = (x_in 4 I1 (x_len 4 (nI n) I1 F)).1 j) (c3 : I2 56 1 = nI n) (c4 : I2 56 0 = I 56 0) (c5 : I2 56 2 = I 56 2) (c6 : ∀ j, (j < 32 ∨ 64 ≤ j) → I2 55 j = I 55 j) (c7 : ∀ j, j < n → I1 5 j = I2 55 (32 + j)) : J I2 (x_in 4 I1 (x_len 4 (nI n) I1 F)).2 := by
  have i3 : I2 5 = I1 5 := c2 5 (by decide) (by decide)
  refine J_new (KT4 h n hn (fun j a b c d e f => ?_) (fun j a b c d => ?_) rfl (fun i hi => ?_) rfl rfl rfl c3 c4 c5 c6 (fun j hj => ?_) ?_ rfl ?_ ?_ ?_) rfl rfl
  · rw [c2 j e f]
    show va_up (va_up (va_up I1 11 _) 12 _) 13 _ j = _
    rw [va_ne d, va_ne c, va_ne b]
    exact c1 j a
  · show zu2 (zu2 (zu2 (zu2 (zu2 F 4 3 _) 4 4 _) 8 3 _) 17 1 (-1)) 0 5 1 j = _
    rw [zu_ne a, zu_ne d, zu_ne c, zu_ne b, zu_ne b]
  · show zu2 (x_len 4 (nI n) I1 F) 8 3 _ 8 i = _
    rw [zu_eq, pk_un hi]
    rfl
  · rw [i3]; exact c7 j hj
  · rw [i3]
    show tq_ff 4 (I1 5) (nI n).toNatClampNeg (nI n).toNatClampNeg 0 0 = _
    rw [nI_clamp (by omega)]
  · rw [i3, c2 11 (by decide) (by decide), ← c1 11 (by decide)]
    rfl
  · rw [i3, c2 12 (by decide) (by decide), ← c1 12 (by decide)]
    rfl
  · rw [i3, c2 13 (by decide) (by decide), ← c1 13 (by decide)]
    rfl
theorem u_t6 {I F I1 I2 : zI} (h : K I F) (n : Nat) (hn : n ≤ 24) (c1 : ∀ j, ¬ j = 7 → I1 j = I j) (c2 : ∀ j, ¬ j = 55 → ¬ j = 56 → I2 j = (x_in 6 I1 (x_len 6 (nI n) I1 F)).1 j) (c3 : I2 56 2 = nI n) (c4 : I2 56 0 = I 56 0) (c5 : I2 56 1 = I 56 1) (c6 : ∀ j, j < 64 → I2 55 j = I 55 j) (c7 : ∀ j, j < n → I1 7 j = I2 55 (64 + j)) : J I2 (x_in 6 I1 (x_len 6 (nI n) I1 F)).2 := by
  have i3 : I2 7 = I1 7 := c2 7 (by decide) (by decide)
  refine J_new (KT6 h n hn (fun j a b c d => ?_) (fun j a b c => ?_) rfl rfl rfl rfl c3 c4 c5 c6 (fun j hj => ?_) ?_ ?_) rfl rfl
  · rw [c2 j c d]
    show va_up I1 14 _ j = _
    rw [va_ne b]
    exact c1 j a
  · show zu2 (zu2 (zu2 (zu2 F 6 3 _) 6 4 _) 17 1 (-1)) 0 5 1 j = _
    rw [zu_ne a, zu_ne c, zu_ne b, zu_ne b]
  · rw [i3]; exact c7 j hj
  · rw [i3]
    show tq_ff 6 (I1 7) (nI n).toNatClampNeg (nI n).toNatClampNeg 0 0 = _
    rw [nI_clamp (by omega)]
  · rw [i3, c2 14 (by decide) (by decide), ← c1 14 (by decide)]
    rfl
set_option maxHeartbeats 4000000 in
theorem u_type {I F : zI} (h : J I F) (x b : Int32) : (x_type x b I F).1 = (m_type x b (x_type x b I F).2.1).1 ∧ J (m_type x b (x_type x b I F).2.1).2 (x_type x b I F).2.2 := by
  rcases (Classical.em ((0 ≤ x ∧ x < 3) ∧ (0 ≤ b ∧ b < 256))).symm with hq | hq
  · have e1 : x_type x b I F = (-2, I, F) := if_neg hq
    rw [e1]
    have e2 : m_type x b I = (-2, I) := if_neg hq
    rw [e2]
    exact ⟨rfl, h⟩
  obtain ⟨hx, hc⟩ := hq
  rcases w3_or hx with rfl | rfl | rfl
  · have hF : F 2 3 = I 56 0 := h.1.1.2.1
    have hb : ∀ j, j < (I 56 0).toNatClampNeg → I 3 j = I 55 j := h.1.1.2.2.2.2.2.2.2.1
    obtain ⟨n, hn, e⟩ := vp_in_of (K_t h.1).1 (by decide)
    have eF : F 2 3 = nI n := hF.trans e
    have cl : (I 56 0).toNatClampNeg = n := by rw [e]; exact nI_clamp (by omega)
    rw [cl] at hb
    by_cases hf : F 2 3 = nI 23
    · have e1 : x_type 0 b I F = (-4, I, F) := (if_pos ⟨hx, hc⟩).trans (if_pos ((w_cap (c := 23) eF (by omega) (by decide)).mpr hf))
      rw [e1]
      have e2 : m_type 0 b I = (-4, I) := (if_pos ⟨hx, hc⟩).trans (if_pos (hF.symm.trans hf))
      rw [e2]
      exact ⟨rfl, h⟩
    · have e1 : x_type 0 b I F = (F 2 3 + 1, x_in 2 (zu2 I 3 (F 2 3).toNatClampNeg b) (x_len 2 (F 2 3 + 1) (zu2 I 3 (F 2 3).toNatClampNeg b) F)) := (if_pos ⟨hx, hc⟩).trans (if_neg (fun z => hf ((w_cap (c := 23) eF (by omega) (by decide)).mp z)))
      have hnl : n < 23 := by
        refine Classical.byContradiction fun z => hf ?_
        rw [eF, show n = 23 by omega]
      rw [eF, nI_1, nI_clamp (by omega)] at e1
      rw [e1]
      have g56 : ((nI (n + 1), x_in 2 (zu2 I 3 n b) (x_len 2 (nI (n + 1)) (zu2 I 3 n b) F)) : Int32 × zI × zI).2.1 56 = I 56 := rfl
      have g55 : ((nI (n + 1), x_in 2 (zu2 I 3 n b) (x_len 2 (nI (n + 1)) (zu2 I 3 n b) F)) : Int32 × zI × zI).2.1 55 = I 55 := rfl
      generalize hX : ((nI (n + 1), x_in 2 (zu2 I 3 n b) (x_len 2 (nI (n + 1)) (zu2 I 3 n b) F)) : Int32 × zI × zI) = X at g55 g56 ⊢
      have e2 : m_type 0 b X.2.1 = (nI (n + 1), zu2 (zu2 X.2.1 55 (n) b) 56 0 (nI (n + 1))) := by
        unfold m_type
        rw [if_pos ⟨hx, hc⟩, g56, show (0 : Int32).toNatClampNeg = 0 from rfl, e, show m_cap 0 = nI 23 from rfl, if_neg (fun z => hf (eF.trans z)), nI_1]
        congr 2
        rw [show (32 : Int32) * 0 = nI 0 from rfl, nI_add, nI_clamp (by omega)]
        simp only [Nat.zero_add]
      rw [e2]
      subst hX
      refine ⟨rfl, u_t2 h.1 (n + 1) (by omega) (fun j hj => zu_ne hj) (fun j a b => ?_) ?_ ?_ ?_ (fun j hj => ?_) (fun j hj => ?_)⟩
      · show zu2 (zu2 _ 55 _ _) 56 _ _ j = _
        rw [zu_ne b, zu_ne a]
      · rfl
      · rfl
      · rfl
      · show upd (I 55) (n) b j = I 55 j
        rw [pk_un (by omega)]
      · show upd (I 3) n b j = upd (I 55) (n) b (j)
        by_cases hj2 : j = n
        · subst hj2
          rw [pk_us, pk_us]
        · rw [pk_un hj2, pk_un (by omega)]
          exact hb j (by omega)
  · have hF : F 4 3 = I 56 1 := h.1.1.2.2.1
    have hb : ∀ j, j < (I 56 1).toNatClampNeg → I 5 j = I 55 (32 + j) := h.1.1.2.2.2.2.2.2.2.2.1
    obtain ⟨n, hn, e⟩ := vp_in_of (K_t h.1).2.1 (by decide)
    have eF : F 4 3 = nI n := hF.trans e
    have cl : (I 56 1).toNatClampNeg = n := by rw [e]; exact nI_clamp (by omega)
    rw [cl] at hb
    by_cases hf : F 4 3 = nI 31
    · have e1 : x_type 1 b I F = (-4, I, F) := (if_pos ⟨hx, hc⟩).trans (if_pos ((w_cap (c := 31) eF (by omega) (by decide)).mpr hf))
      rw [e1]
      have e2 : m_type 1 b I = (-4, I) := (if_pos ⟨hx, hc⟩).trans (if_pos (hF.symm.trans hf))
      rw [e2]
      exact ⟨rfl, h⟩
    · have e1 : x_type 1 b I F = (F 4 3 + 1, x_in 4 (zu2 I 5 (F 4 3).toNatClampNeg b) (x_len 4 (F 4 3 + 1) (zu2 I 5 (F 4 3).toNatClampNeg b) F)) := (if_pos ⟨hx, hc⟩).trans (if_neg (fun z => hf ((w_cap (c := 31) eF (by omega) (by decide)).mp z)))
      have hnl : n < 31 := by
        refine Classical.byContradiction fun z => hf ?_
        rw [eF, show n = 31 by omega]
      rw [eF, nI_1, nI_clamp (by omega)] at e1
      rw [e1]
      have g56 : ((nI (n + 1), x_in 4 (zu2 I 5 n b) (x_len 4 (nI (n + 1)) (zu2 I 5 n b) F)) : Int32 × zI × zI).2.1 56 = I 56 := rfl
      have g55 : ((nI (n + 1), x_in 4 (zu2 I 5 n b) (x_len 4 (nI (n + 1)) (zu2 I 5 n b) F)) : Int32 × zI × zI).2.1 55 = I 55 := rfl
      generalize hX : ((nI (n + 1), x_in 4 (zu2 I 5 n b) (x_len 4 (nI (n + 1)) (zu2 I 5 n b) F)) : Int32 × zI × zI) = X at g55 g56 ⊢
      have e2 : m_type 1 b X.2.1 = (nI (n + 1), zu2 (zu2 X.2.1 55 (32 + n) b) 56 1 (nI (n + 1))) := by
        unfold m_type
        rw [if_pos ⟨hx, hc⟩, g56, show (1 : Int32).toNatClampNeg = 1 from rfl, e, show m_cap 1 = nI 31 from rfl, if_neg (fun z => hf (eF.trans z)), nI_1]
        congr 2
        rw [show (32 : Int32) * 1 = nI 32 from rfl, nI_add, nI_clamp (by omega)]
      rw [e2]
      subst hX
      refine ⟨rfl, u_t4 h.1 (n + 1) (by omega) (fun j hj => zu_ne hj) (fun j a b => ?_) ?_ ?_ ?_ (fun j hj => ?_) (fun j hj => ?_)⟩
      · show zu2 (zu2 _ 55 _ _) 56 _ _ j = _
        rw [zu_ne b, zu_ne a]
      · rfl
      · rfl
      · rfl
      · show upd (I 55) (32 + n) b j = I 55 j
        rw [pk_un (by omega)]
      · show upd (I 5) n b j = upd (I 55) (32 + n) b (32 + j)
        by_cases hj2 : j = n
        · subst hj2
          rw [pk_us, pk_us]
        · rw [pk_un hj2, pk_un (by omega)]
          exact hb j (by omega)
  · have hF : F 6 3 = I 56 2 := h.1.1.2.2.2.1
    have hb : ∀ j, j < (I 56 2).toNatClampNeg → I 7 j = I 55 (64 + j) := h.1.1.2.2.2.2.2.2.2.2.2
    obtain ⟨n, hn, e⟩ := vp_in_of (K_t h.1).2.2 (by decide)
    have eF : F 6 3 = nI n := hF.trans e
    have cl : (I 56 2).toNatClampNeg = n := by rw [e]; exact nI_clamp (by omega)
    rw [cl] at hb
    by_cases hf : F 6 3 = nI 24
    · have e1 : x_type 2 b I F = (-4, I, F) := (if_pos ⟨hx, hc⟩).trans (if_pos ((w_cap (c := 24) eF (by omega) (by decide)).mpr hf))
      rw [e1]
      have e2 : m_type 2 b I = (-4, I) := (if_pos ⟨hx, hc⟩).trans (if_pos (hF.symm.trans hf))
      rw [e2]
      exact ⟨rfl, h⟩
    · have e1 : x_type 2 b I F = (F 6 3 + 1, x_in 6 (zu2 I 7 (F 6 3).toNatClampNeg b) (x_len 6 (F 6 3 + 1) (zu2 I 7 (F 6 3).toNatClampNeg b) F)) := (if_pos ⟨hx, hc⟩).trans (if_neg (fun z => hf ((w_cap (c := 24) eF (by omega) (by decide)).mp z)))
      have hnl : n < 24 := by
        refine Classical.byContradiction fun z => hf ?_
        rw [eF, show n = 24 by omega]
      rw [eF, nI_1, nI_clamp (by omega)] at e1
      rw [e1]
      have g56 : ((nI (n + 1), x_in 6 (zu2 I 7 n b) (x_len 6 (nI (n + 1)) (zu2 I 7 n b) F)) : Int32 × zI × zI).2.1 56 = I 56 := rfl
      have g55 : ((nI (n + 1), x_in 6 (zu2 I 7 n b) (x_len 6 (nI (n + 1)) (zu2 I 7 n b) F)) : Int32 × zI × zI).2.1 55 = I 55 := rfl
      generalize hX : ((nI (n + 1), x_in 6 (zu2 I 7 n b) (x_len 6 (nI (n + 1)) (zu2 I 7 n b) F)) : Int32 × zI × zI) = X at g55 g56 ⊢
      have e2 : m_type 2 b X.2.1 = (nI (n + 1), zu2 (zu2 X.2.1 55 (64 + n) b) 56 2 (nI (n + 1))) := by
        unfold m_type
        rw [if_pos ⟨hx, hc⟩, g56, show (2 : Int32).toNatClampNeg = 2 from rfl, e, show m_cap 2 = nI 24 from rfl, if_neg (fun z => hf (eF.trans z)), nI_1]
        congr 2
        rw [show (32 : Int32) * 2 = nI 64 from rfl, nI_add, nI_clamp (by omega)]
      rw [e2]
      subst hX
      refine ⟨rfl, u_t6 h.1 (n + 1) (by omega) (fun j hj => zu_ne hj) (fun j a b => ?_) ?_ ?_ ?_ (fun j hj => ?_) (fun j hj => ?_)⟩
      · show zu2 (zu2 _ 55 _ _) 56 _ _ j = _
        rw [zu_ne b, zu_ne a]
      · rfl
      · rfl
      · rfl
      · show upd (I 55) (64 + n) b j = I 55 j
        rw [pk_un (by omega)]
      · show upd (I 7) n b j = upd (I 55) (64 + n) b (64 + j)
        by_cases hj2 : j = n
        · subst hj2
          rw [pk_us, pk_us]
        · rw [pk_un hj2, pk_un (by omega)]
          exact hb j (by omega)
set_option maxHeartbeats 4000000 in
theorem u_wipe {I F : zI} (h : J I F) (x : Int32) : (x_wipe x I F).1 = (m_wipe x (x_wipe x I F).2.1).1 ∧ J (m_wipe x (x_wipe x I F).2.1).2 (x_wipe x I F).2.2 := by
  rcases (Classical.em (0 ≤ x ∧ x < 3)).symm with hx | hx
  · have e1 : x_wipe x I F = (-2, I, F) := if_neg hx
    rw [e1]
    have e2 : m_wipe x I = (-2, I) := if_neg hx
    rw [e2]
    exact ⟨rfl, h⟩
  rcases w3_or hx with rfl | rfl | rfl
  · have hF : F 2 3 = I 56 0 := h.1.1.2.1
    have hb : ∀ j, j < (I 56 0).toNatClampNeg → I 3 j = I 55 j := h.1.1.2.2.2.2.2.2.2.1
    obtain ⟨n, hn, e⟩ := vp_in_of (K_t h.1).1 (by decide)
    have eF : F 2 3 = nI n := hF.trans e
    have cl : (I 56 0).toNatClampNeg = n := by rw [e]; exact nI_clamp (by omega)
    rw [cl] at hb
    have e1 : x_wipe 0 I F = (F 2 3, x_in 2 I (x_len 2 (nI 0) I F)) := if_pos hx
    rw [eF] at e1
    rw [e1]
    have g56 : ((nI n, x_in 2 I (x_len 2 (nI 0) I F)) : Int32 × zI × zI).2.1 56 = I 56 := rfl
    have g55 : ((nI n, x_in 2 I (x_len 2 (nI 0) I F)) : Int32 × zI × zI).2.1 55 = I 55 := rfl
    generalize hX : ((nI n, x_in 2 I (x_len 2 (nI 0) I F)) : Int32 × zI × zI) = X at g55 g56 ⊢
    have e2 : m_wipe 0 X.2.1 = (nI n, zu2 X.2.1 56 0 (nI 0)) := by
      unfold m_wipe
      rw [if_pos hx, g56, show (0 : Int32).toNatClampNeg = 0 from rfl, e]
      rfl
    rw [e2]
    subst hX
    refine ⟨rfl, u_t2 h.1 0 (by omega) (fun j hj => rfl) (fun j a b => ?_) ?_ ?_ ?_ (fun j hj => ?_) (fun j hj => ?_)⟩
    · show zu2 _ 56 _ _ j = _
      rw [zu_ne b]
    · rfl
    · rfl
    · rfl
    · rfl
    · exact hb j (by omega)
  · have hF : F 4 3 = I 56 1 := h.1.1.2.2.1
    have hb : ∀ j, j < (I 56 1).toNatClampNeg → I 5 j = I 55 (32 + j) := h.1.1.2.2.2.2.2.2.2.2.1
    obtain ⟨n, hn, e⟩ := vp_in_of (K_t h.1).2.1 (by decide)
    have eF : F 4 3 = nI n := hF.trans e
    have cl : (I 56 1).toNatClampNeg = n := by rw [e]; exact nI_clamp (by omega)
    rw [cl] at hb
    have e1 : x_wipe 1 I F = (F 4 3, x_in 4 I (x_len 4 (nI 0) I F)) := if_pos hx
    rw [eF] at e1
    rw [e1]
    have g56 : ((nI n, x_in 4 I (x_len 4 (nI 0) I F)) : Int32 × zI × zI).2.1 56 = I 56 := rfl
    have g55 : ((nI n, x_in 4 I (x_len 4 (nI 0) I F)) : Int32 × zI × zI).2.1 55 = I 55 := rfl
    generalize hX : ((nI n, x_in 4 I (x_len 4 (nI 0) I F)) : Int32 × zI × zI) = X at g55 g56 ⊢
    have e2 : m_wipe 1 X.2.1 = (nI n, zu2 X.2.1 56 1 (nI 0)) := by
      unfold m_wipe
      rw [if_pos hx, g56, show (1 : Int32).toNatClampNeg = 1 from rfl, e]
      rfl
    rw [e2]
    subst hX
    refine ⟨rfl, u_t4 h.1 0 (by omega) (fun j hj => rfl) (fun j a b => ?_) ?_ ?_ ?_ (fun j hj => ?_) (fun j hj => ?_)⟩
    · show zu2 _ 56 _ _ j = _
      rw [zu_ne b]
    · rfl
    · rfl
    · rfl
    · rfl
    · exact hb j (by omega)
  · have hF : F 6 3 = I 56 2 := h.1.1.2.2.2.1
    have hb : ∀ j, j < (I 56 2).toNatClampNeg → I 7 j = I 55 (64 + j) := h.1.1.2.2.2.2.2.2.2.2.2
    obtain ⟨n, hn, e⟩ := vp_in_of (K_t h.1).2.2 (by decide)
    have eF : F 6 3 = nI n := hF.trans e
    have cl : (I 56 2).toNatClampNeg = n := by rw [e]; exact nI_clamp (by omega)
    rw [cl] at hb
    have e1 : x_wipe 2 I F = (F 6 3, x_in 6 I (x_len 6 (nI 0) I F)) := if_pos hx
    rw [eF] at e1
    rw [e1]
    have g56 : ((nI n, x_in 6 I (x_len 6 (nI 0) I F)) : Int32 × zI × zI).2.1 56 = I 56 := rfl
    have g55 : ((nI n, x_in 6 I (x_len 6 (nI 0) I F)) : Int32 × zI × zI).2.1 55 = I 55 := rfl
    generalize hX : ((nI n, x_in 6 I (x_len 6 (nI 0) I F)) : Int32 × zI × zI) = X at g55 g56 ⊢
    have e2 : m_wipe 2 X.2.1 = (nI n, zu2 X.2.1 56 2 (nI 0)) := by
      unfold m_wipe
      rw [if_pos hx, g56, show (2 : Int32).toNatClampNeg = 2 from rfl, e]
      rfl
    rw [e2]
    subst hX
    refine ⟨rfl, u_t6 h.1 0 (by omega) (fun j hj => rfl) (fun j a b => ?_) ?_ ?_ ?_ (fun j hj => ?_) (fun j hj => ?_)⟩
    · show zu2 _ 56 _ _ j = _
      rw [zu_ne b]
    · rfl
    · rfl
    · rfl
    · rfl
    · exact hb j (by omega)
set_option maxHeartbeats 4000000 in
theorem u_undo {I F : zI} (h : J I F) (x : Int32) : (x_undo x I F).1 = (m_undo x (x_undo x I F).2.1).1 ∧ J (m_undo x (x_undo x I F).2.1).2 (x_undo x I F).2.2 := by
  rcases (Classical.em (0 ≤ x ∧ x < 3)).symm with hx | hx
  · have e1 : x_undo x I F = (-2, I, F) := if_neg hx
    rw [e1]
    have e2 : m_undo x I = (-2, I) := if_neg hx
    rw [e2]
    exact ⟨rfl, h⟩
  rcases w3_or hx with rfl | rfl | rfl
  · have hF : F 2 3 = I 56 0 := h.1.1.2.1
    have hb : ∀ j, j < (I 56 0).toNatClampNeg → I 3 j = I 55 j := h.1.1.2.2.2.2.2.2.2.1
    obtain ⟨n, hn, e⟩ := vp_in_of (K_t h.1).1 (by decide)
    have eF : F 2 3 = nI n := hF.trans e
    have cl : (I 56 0).toNatClampNeg = n := by rw [e]; exact nI_clamp (by omega)
    rw [cl] at hb
    by_cases hf : n = 0
    · have e1 : x_undo 0 I F = (-3, I, F) := (if_pos hx).trans (if_pos (by show F 2 3 = 0; rw [eF, hf]; rfl))
      rw [e1]
      have e2 : m_undo 0 I = (-3, I) := (if_pos hx).trans (if_pos (by show I 56 0 = 0; rw [e, hf]; rfl))
      rw [e2]
      exact ⟨rfl, h⟩
    have hz : ¬ nI n = 0 := by
      intro z
      have := congrArg Int32.toNatClampNeg z
      rw [nI_clamp (by omega), show (0 : Int32).toNatClampNeg = 0 from rfl] at this
      exact hf this
    have e1 : x_undo 0 I F = (F 2 3 - 1, x_in 2 I (x_len 2 (F 2 3 - 1) I F)) := (if_pos hx).trans (if_neg (by show ¬ F 2 3 = 0; rw [eF]; exact hz))
    rw [eF, nI_prd (by omega) (by omega)] at e1
    rw [e1]
    have g56 : ((nI (n - 1), x_in 2 I (x_len 2 (nI (n - 1)) I F)) : Int32 × zI × zI).2.1 56 = I 56 := rfl
    have g55 : ((nI (n - 1), x_in 2 I (x_len 2 (nI (n - 1)) I F)) : Int32 × zI × zI).2.1 55 = I 55 := rfl
    generalize hX : ((nI (n - 1), x_in 2 I (x_len 2 (nI (n - 1)) I F)) : Int32 × zI × zI) = X at g55 g56 ⊢
    have e2 : m_undo 0 X.2.1 = (nI (n - 1), zu2 X.2.1 56 0 (nI (n - 1))) := by
      unfold m_undo
      rw [if_pos hx, g56, show (0 : Int32).toNatClampNeg = 0 from rfl, e, if_neg hz, nI_prd (by omega) (by omega)]
    rw [e2]
    subst hX
    refine ⟨rfl, u_t2 h.1 (n - 1) (by omega) (fun j hj => rfl) (fun j a b => ?_) ?_ ?_ ?_ (fun j hj => ?_) (fun j hj => ?_)⟩
    · show zu2 _ 56 _ _ j = _
      rw [zu_ne b]
    · rfl
    · rfl
    · rfl
    · rfl
    · exact hb j (by omega)
  · have hF : F 4 3 = I 56 1 := h.1.1.2.2.1
    have hb : ∀ j, j < (I 56 1).toNatClampNeg → I 5 j = I 55 (32 + j) := h.1.1.2.2.2.2.2.2.2.2.1
    obtain ⟨n, hn, e⟩ := vp_in_of (K_t h.1).2.1 (by decide)
    have eF : F 4 3 = nI n := hF.trans e
    have cl : (I 56 1).toNatClampNeg = n := by rw [e]; exact nI_clamp (by omega)
    rw [cl] at hb
    by_cases hf : n = 0
    · have e1 : x_undo 1 I F = (-3, I, F) := (if_pos hx).trans (if_pos (by show F 4 3 = 0; rw [eF, hf]; rfl))
      rw [e1]
      have e2 : m_undo 1 I = (-3, I) := (if_pos hx).trans (if_pos (by show I 56 1 = 0; rw [e, hf]; rfl))
      rw [e2]
      exact ⟨rfl, h⟩
    have hz : ¬ nI n = 0 := by
      intro z
      have := congrArg Int32.toNatClampNeg z
      rw [nI_clamp (by omega), show (0 : Int32).toNatClampNeg = 0 from rfl] at this
      exact hf this
    have e1 : x_undo 1 I F = (F 4 3 - 1, x_in 4 I (x_len 4 (F 4 3 - 1) I F)) := (if_pos hx).trans (if_neg (by show ¬ F 4 3 = 0; rw [eF]; exact hz))
    rw [eF, nI_prd (by omega) (by omega)] at e1
    rw [e1]
    have g56 : ((nI (n - 1), x_in 4 I (x_len 4 (nI (n - 1)) I F)) : Int32 × zI × zI).2.1 56 = I 56 := rfl
    have g55 : ((nI (n - 1), x_in 4 I (x_len 4 (nI (n - 1)) I F)) : Int32 × zI × zI).2.1 55 = I 55 := rfl
    generalize hX : ((nI (n - 1), x_in 4 I (x_len 4 (nI (n - 1)) I F)) : Int32 × zI × zI) = X at g55 g56 ⊢
    have e2 : m_undo 1 X.2.1 = (nI (n - 1), zu2 X.2.1 56 1 (nI (n - 1))) := by
      unfold m_undo
      rw [if_pos hx, g56, show (1 : Int32).toNatClampNeg = 1 from rfl, e, if_neg hz, nI_prd (by omega) (by omega)]
    rw [e2]
    subst hX
    refine ⟨rfl, u_t4 h.1 (n - 1) (by omega) (fun j hj => rfl) (fun j a b => ?_) ?_ ?_ ?_ (fun j hj => ?_) (fun j hj => ?_)⟩
    · show zu2 _ 56 _ _ j = _
      rw [zu_ne b]
    · rfl
    · rfl
    · rfl
    · rfl
    · exact hb j (by omega)
  · have hF : F 6 3 = I 56 2 := h.1.1.2.2.2.1
    have hb : ∀ j, j < (I 56 2).toNatClampNeg → I 7 j = I 55 (64 + j) := h.1.1.2.2.2.2.2.2.2.2.2
    obtain ⟨n, hn, e⟩ := vp_in_of (K_t h.1).2.2 (by decide)
    have eF : F 6 3 = nI n := hF.trans e
    have cl : (I 56 2).toNatClampNeg = n := by rw [e]; exact nI_clamp (by omega)
    rw [cl] at hb
    by_cases hf : n = 0
    · have e1 : x_undo 2 I F = (-3, I, F) := (if_pos hx).trans (if_pos (by show F 6 3 = 0; rw [eF, hf]; rfl))
      rw [e1]
      have e2 : m_undo 2 I = (-3, I) := (if_pos hx).trans (if_pos (by show I 56 2 = 0; rw [e, hf]; rfl))
      rw [e2]
      exact ⟨rfl, h⟩
    have hz : ¬ nI n = 0 := by
      intro z
      have := congrArg Int32.toNatClampNeg z
      rw [nI_clamp (by omega), show (0 : Int32).toNatClampNeg = 0 from rfl] at this
      exact hf this
    have e1 : x_undo 2 I F = (F 6 3 - 1, x_in 6 I (x_len 6 (F 6 3 - 1) I F)) := (if_pos hx).trans (if_neg (by show ¬ F 6 3 = 0; rw [eF]; exact hz))
    rw [eF, nI_prd (by omega) (by omega)] at e1
    rw [e1]
    have g56 : ((nI (n - 1), x_in 6 I (x_len 6 (nI (n - 1)) I F)) : Int32 × zI × zI).2.1 56 = I 56 := rfl
    have g55 : ((nI (n - 1), x_in 6 I (x_len 6 (nI (n - 1)) I F)) : Int32 × zI × zI).2.1 55 = I 55 := rfl
    generalize hX : ((nI (n - 1), x_in 6 I (x_len 6 (nI (n - 1)) I F)) : Int32 × zI × zI) = X at g55 g56 ⊢
    have e2 : m_undo 2 X.2.1 = (nI (n - 1), zu2 X.2.1 56 2 (nI (n - 1))) := by
      unfold m_undo
      rw [if_pos hx, g56, show (2 : Int32).toNatClampNeg = 2 from rfl, e, if_neg hz, nI_prd (by omega) (by omega)]
    rw [e2]
    subst hX
    refine ⟨rfl, u_t6 h.1 (n - 1) (by omega) (fun j hj => rfl) (fun j a b => ?_) ?_ ?_ ?_ (fun j hj => ?_) (fun j hj => ?_)⟩
    · show zu2 _ 56 _ _ j = _
      rw [zu_ne b]
    · rfl
    · rfl
    · rfl
    · rfl
    · exact hb j (by omega)
