/-! the class: its invariant, the days -/
def JP (I F : zI) : Prop := F 17 1 = -1 ∨ ∃ C0 n, n < 24 ∧ getC 17 I F = cD (hl I F) C0 (n + 1)
def JC (I F : zI) : Prop := F 0 5 = 0 → ∀ m, m < 256 → I 35 m = -1 ∨ I 35 m = a_peace (hpre (nI m) (hl I F))
def JS (I F : zI) : Prop := F 36 0 = F 50 33 ∧ vp_in (F 36 0) 9 ∧ ∀ i, i < (F 36 0).toNatClampNeg → I 37 i = I 75 (3 * i) ∧ I 38 i = I 75 (3 * i + 1) ∧ I 39 i = I 75 (3 * i + 2) ∧ vp_in (I 37 i) 24 ∧ vp_in (I 38 i) 8
def JG (I F : zI) : Prop := vp_in (if F 6 4 = -1 then F 6 3 else 0) 25 ∧ ∀ j, j < 24 → I 14 j = if j < p_sl 6 F then I 7 j - 48 else 3
def XJ (I F : zI) : Prop := hok (hl I F) ∧ hcut (hl I F) ∧ JP I F ∧ JC I F ∧ F 8 8 = -1 ∧ F 8 12 = x_al F ∧ JS I F ∧ JG I F
/-- what a query of the class may change -/
def XS (I F I' F' : zI) : Prop := (∀ j, ¬ (17 ≤ j ∧ j ≤ 35) → ¬ j = 40 → I' j = I j) ∧ (∀ j, ¬ j = 0 → ¬ j = 17 → ¬ j = 26 → F' j = F j) ∧ (∀ i, ¬ i = 5 → F' 0 i = F 0 i) ∧ JP I' F' ∧ JC I' F'
theorem XS_refl {I F : zI} (h : XJ I F) : XS I F I F := ⟨fun _ _ _ => rfl, fun _ _ _ _ => rfl, fun _ _ => rfl, h.2.2.1, h.2.2.2.1⟩
theorem XS_trans {I F I1 F1 I2 F2 : zI} (h : XS I F I1 F1) (g : XS I1 F1 I2 F2) : XS I F I2 F2 := ⟨fun j a b => (g.1 j a b).trans (h.1 j a b), fun j a b c => (g.2.1 j a b c).trans (h.2.1 j a b c), fun i a => (g.2.2.1 i a).trans (h.2.2.1 i a), g.2.2.2.1, g.2.2.2.2⟩
theorem hl_eq {I F I' F' : zI} (h : ∀ j, 9 ≤ j → j ≤ 16 → I' j = I j) (g : F' 8 = F 8) : hl I' F' = hl I F := by
  unfold hl
  rw [h 9 (by omega) (by omega), h 10 (by omega) (by omega), h 11 (by omega) (by omega), h 12 (by omega) (by omega), h 13 (by omega) (by omega), h 14 (by omega) (by omega), h 15 (by omega) (by omega), h 16 (by omega) (by omega), g]
theorem XS_hl {I F I' F' : zI} (h : XS I F I' F') : hl I' F' = hl I F := hl_eq (fun j a b => h.1 j (by omega) (by omega)) (h.2.1 8 (by decide) (by decide) (by decide))
theorem XS_J {I F I' F' : zI} (h : XJ I F) (g : XS I F I' F') : XJ I' F' := by
  obtain ⟨h1, h2, h3, h4, h5, h6, h7, h8⟩ := h
  have e := XS_hl g
  have f8 := g.2.1 8 (by decide) (by decide) (by decide)
  refine ⟨by rw [e]; exact h1, by rw [e]; exact h2, g.2.2.2.1, g.2.2.2.2, by rw [f8]; exact h5, ?_, ?_, ?_⟩
  · unfold x_al at h6 ⊢
    rw [f8]
    exact h6
  · unfold JS at h7 ⊢
    rw [g.2.1 36 (by decide) (by decide) (by decide), g.2.1 50 (by decide) (by decide) (by decide), g.1 37 (by omega) (by omega), g.1 38 (by omega) (by omega), g.1 39 (by omega) (by omega), g.1 75 (by omega) (by omega)]
    exact h7
  · unfold JG p_sl at h8 ⊢
    rw [g.2.1 6 (by decide) (by decide) (by decide), g.1 14 (by omega) (by omega), g.1 7 (by omega) (by omega)]
    exact h8
theorem ctd_cD (H : zH) (C0 : zC) (n : Nat) : ctd (cD H C0 (n + 1)) = nI n := by
  rw [cD_succ]
  unfold c_pass
  exact (c_ends _).2
theorem c_days_add (H : zH) : ∀ a b d C, c_days H b (d + a) (c_days H a d C) = c_days H (a + b) d C := by
  intro a
  induction a with
  | zero => exact fun b d C => by rw [Nat.zero_add]; rfl
  | succ a ih =>
    intro b d C
    rw [show a + 1 + b = (a + b) + 1 by omega]
    show c_days H b (d + (a + 1)) (c_days H a (d + 1) (c_pass H (nI d) C)) = c_days H (a + b) (d + 1) (c_pass H (nI d) C)
    rw [← ih, show d + 1 + a = d + (a + 1) by omega]
theorem JP_pok {I F : zI} (h : XJ I F) : pok I F := by
  refine ⟨?_, h.1⟩
  rcases h.2.2.1 with c | ⟨C0, n, hn, c⟩
  · show vp_in (F 17 1 + 1) 25
    rw [c]
    exact vp_in_nI (n := 0) (by decide) (by decide)
  · rw [c, ctd_cD, nI_1]
    exact vp_in_nI (by omega) (by decide)
theorem xP_cD {I F : zI} (h : XJ I F) {d : Int32} (hd : vp_in d 24) : ∃ C0, x_P d I F = cD (hl I F) C0 (d.toNatClampNeg + 1) := by
  obtain ⟨d1, d2⟩ := zn_of hd (by decide)
  have hd1 : (d + 1).toNatClampNeg = d.toNatClampNeg + 1 := by
    rw [d1, nI_1, nI_clamp (by omega), nI_clamp (by omega)]
  unfold x_P c_runTo
  by_cases c : ctd (getC 17 I F) = -1 ∨ d < ctd (getC 17 I F)
  · have e : c_from (hl I F) d (getC 17 I F) = c_clear (hl I F) (getC 17 I F) := if_pos c
    rw [e, ctd_clear, hd1, show ((-1 : Int32) + 1).toNatClampNeg = 0 from rfl]
    exact ⟨getC 17 I F, rfl⟩
  · have e : c_from (hl I F) d (getC 17 I F) = getC 17 I F := if_neg c
    rw [e, hd1]
    rcases h.2.2.1 with c0 | ⟨C0, n, hn, c0⟩
    · exact absurd (Or.inl c0) c
    · rw [c0, ctd_cD] at c
      rw [c0, ctd_cD, nI_1, nI_clamp (by omega)]
      have hle : n ≤ d.toNatClampNeg := by
        have : ¬ d < nI n := fun z => c (Or.inr z)
        rw [d1, nI_ltI (by omega) (by omega)] at this
        omega
      refine ⟨C0, ?_⟩
      unfold cD
      have := c_days_add (hl I F) (n + 1) (d.toNatClampNeg + 1 - (n + 1)) 0 (c_clear (hl I F) C0)
      rw [Nat.zero_add] at this
      rw [this, show n + 1 + (d.toNatClampNeg + 1 - (n + 1)) = d.toNatClampNeg + 1 by omega]
theorem XS_p {I F : zI} (h : XJ I F) {d : Int32} (hd : vp_in d 24) : XS I F (x_pI d I F) (x_pF d I F) := by
  refine ⟨fun j a b => ?_, fun j a b c => ?_, fun i a => rfl, ?_, h.2.2.2.1⟩
  · exact putC_out _ _ (by omega)
  · exact putf_out _ _ b
  · obtain ⟨C0, e⟩ := xP_cD h hd
    refine Or.inr ⟨C0, d.toNatClampNeg, (zn_of hd (by decide)).2, ?_⟩
    rw [hl_xp, ← e]
    exact getC_put 17 (x_P d I F) I F
theorem v24 {d : Int32} (h : 0 ≤ d ∧ d < 24) : vp_in d 24 := by rw [← vp_iff (by decide)]; exact h
theorem XQ {I F : zI} (h : XJ I F) {q : Int32} (hq : 0 ≤ q ∧ q < F 8 3) : q.toNatClampNeg < (hnq (hl I F)).toNatClampNeg ∧ q.toNatClampNeg < 8 := ⟨(q_lt h.1 hq).2.2, (q_lt h.1 hq).2.1⟩
theorem p_stands (E : zE) (k : Nat) {I F : zI} (h : XJ I F) (d : Int32) (q : Int32) (w : Int32) : zVR E (k + 5) 512 [.ref 0, .int d, .int q, .int w] I F (fun v I' F' => v = some (.int (A_stands (hl I F) d q w)) ∧ XS I F I' F') := by
  refine zVR_in 5 cX5_stands 4 (some .int) zm_512 (by rw [zi_512]; rfl) (by rw [zi_512]) (Nat.le_of_ble_eq_true rfl) ?_
  intro Post hp
  show zG E 5 cX5_stands 4 (some .int) false 0 0 (k + 4) 0 0 Post 0 [some (.ref 0), some (.int d), some (.int q), some (.int w)] [] zSH 77 _ _ 0 0
  refine g_stands (k := k) d q w (JP_pok h) (hp _ _ _ ?_)
  unfold x_stands A_stands
  rw [hh_nq]
  by_cases c : (0 ≤ d ∧ d < 24) ∧ (0 ≤ q ∧ q < F 8 3) ∧ (0 ≤ w ∧ w < 3)
  · rw [if_pos c, if_pos c]
    obtain ⟨C0, e⟩ := xP_cD h (v24 c.1)
    have K := (ind_day h.1 h.2.1 C0 (zn_of (v24 c.1) (by decide)).2).1 q.toNatClampNeg (XQ h c.2.1).1
    refine ⟨?_, XS_p h (v24 c.1)⟩
    rw [e, ← hh_be I F, K.1, K.2.1, K.2.2]
  · rw [if_neg c, if_neg c]
    exact ⟨rfl, XS_refl h⟩
theorem p_at (E : zE) (k : Nat) {I F : zI} (h : XJ I F) (d : Int32) (q : Int32) (w : Int32) : zVR E (k + 5) 513 [.ref 0, .int d, .int q, .int w] I F (fun v I' F' => v = some (.int (A_at (hl I F) d q w)) ∧ XS I F I' F') := by
  refine zVR_in 5 cX5_at 4 (some .int) zm_513 (by rw [zi_513]; rfl) (by rw [zi_513]) (Nat.le_of_ble_eq_true rfl) ?_
  intro Post hp
  show zG E 5 cX5_at 4 (some .int) false 0 0 (k + 4) 0 0 Post 0 [some (.ref 0), some (.int d), some (.int q), some (.int w)] [] zSH 77 _ _ 0 0
  refine g_at (k := k) d q w (JP_pok h) (hp _ _ _ ?_)
  unfold x_at A_at
  rw [hh_np]
  by_cases c : (0 ≤ d ∧ d < 24) ∧ (0 ≤ q ∧ q < F 8 0) ∧ (0 ≤ w ∧ w < 3)
  · rw [if_pos c, if_pos c]
    obtain ⟨C0, e⟩ := xP_cD h (v24 c.1)
    have K := (ind_day h.1 h.2.1 C0 (zn_of (v24 c.1) (by decide)).2).2.1 q.toNatClampNeg (p_lt h.1 c.2.1).2.1
    refine ⟨?_, XS_p h (v24 c.1)⟩
    rw [e, K.1, K.2.1, K.2.2]
  · rw [if_neg c, if_neg c]
    exact ⟨rfl, XS_refl h⟩
theorem p_stock (E : zE) (k : Nat) {I F : zI} (h : XJ I F) (d : Int32) (w : Int32) : zVR E (k + 5) 514 [.ref 0, .int d, .int w] I F (fun v I' F' => v = some (.int (A_stock (hl I F) d w)) ∧ XS I F I' F') := by
  refine zVR_in 5 cX5_stock 3 (some .int) zm_514 (by rw [zi_514]; rfl) (by rw [zi_514]) (Nat.le_of_ble_eq_true rfl) ?_
  intro Post hp
  show zG E 5 cX5_stock 3 (some .int) false 0 0 (k + 4) 0 0 Post 0 [some (.ref 0), some (.int d), some (.int w)] [] zSH 77 _ _ 0 0
  refine g_stock (k := k) d w (JP_pok h) (hp _ _ _ ?_)
  unfold x_stock A_stock
  by_cases c : (0 ≤ d ∧ d < 24) ∧ (0 ≤ w ∧ w < 2)
  · rw [if_pos c, if_pos c]
    obtain ⟨C0, e⟩ := xP_cD h (v24 c.1)
    have K := ind_day h.1 h.2.1 C0 (zn_of (v24 c.1) (by decide)).2
    refine ⟨?_, XS_p h (v24 c.1)⟩
    rw [e, K.2.2, ← hh_be I F, hh_nq]
    rw [c_open_congr (F 8 3).toNatClampNeg (fun q hq => (K.1 q hq).1)]
  · rw [if_neg c, if_neg c]
    exact ⟨rfl, XS_refl h⟩
theorem p_over (E : zE) (k : Nat) {I F : zI} (h : XJ I F) (q : Int32) : zVR E (k + 5) 515 [.ref 0, .int q] I F (fun v I' F' => v = some (.int (A_over (hl I F) q)) ∧ XS I F I' F') := by
  refine zVR_in 5 cX5_over 2 (some .int) zm_515 (by rw [zi_515]; rfl) (by rw [zi_515]) (Nat.le_of_ble_eq_true rfl) ?_
  intro Post hp
  show zG E 5 cX5_over 2 (some .int) false 0 0 (k + 4) 0 0 Post 0 [some (.ref 0), some (.int q)] [] zSH 77 _ _ 0 0
  refine g_over (k := k) q (JP_pok h) (hp _ _ _ ?_)
  unfold x_over A_over
  rw [hh_nq]
  by_cases c : 0 ≤ q ∧ q < F 8 3
  · rw [if_pos c, if_pos c]
    obtain ⟨C0, e⟩ := xP_cD h v23
    have e : x_P 23 I F = cD (hl I F) C0 24 := e
    refine ⟨?_, XS_p h v23⟩
    rw [e, (ind_end h.1 h.2.1 C0).2.1 _ (XQ h c).2]
  · rw [if_neg c, if_neg c]
    exact ⟨rfl, XS_refl h⟩
theorem p_mist (E : zE) (k : Nat) {I F : zI} (h : XJ I F) (w : Int32) : zVR E (k + 5) 516 [.ref 0, .int w] I F (fun v I' F' => v = some (.int (A_mist (hl I F) w)) ∧ XS I F I' F') := by
  refine zVR_in 5 cX5_mist 2 (some .int) zm_516 (by rw [zi_516]; rfl) (by rw [zi_516]) (Nat.le_of_ble_eq_true rfl) ?_
  intro Post hp
  show zG E 5 cX5_mist 2 (some .int) false 0 0 (k + 4) 0 0 Post 0 [some (.ref 0), some (.int w)] [] zSH 77 _ _ 0 0
  refine g_mist (k := k) w (JP_pok h) (hp _ _ _ ?_)
  unfold x_mist A_mist
  by_cases c : 0 ≤ w ∧ w < 2
  · rw [if_pos c, if_pos c]
    obtain ⟨C0, e⟩ := xP_cD h v23
    have e : x_P 23 I F = cD (hl I F) C0 24 := e
    refine ⟨?_, XS_p h v23⟩
    rw [e, mist_end h.1 h.2.1 C0 w]
  · rw [if_neg c, if_neg c]
    exact ⟨rfl, XS_refl h⟩
theorem p_waste (E : zE) (k : Nat) {I F : zI} (h : XJ I F)  : zVR E (k + 5) 517 [.ref 0] I F (fun v I' F' => v = some (.int (cwa (aD (hl I F) 24))) ∧ XS I F I' F') := by
  refine zVR_in 5 cX5_waste 1 (some .int) zm_517 (by rw [zi_517]; rfl) (by rw [zi_517]) (Nat.le_of_ble_eq_true rfl) ?_
  intro Post hp
  show zG E 5 cX5_waste 1 (some .int) false 0 0 (k + 4) 0 0 Post 0 [some (.ref 0)] [] zSH 77 _ _ 0 0
  obtain ⟨C0, e⟩ := xP_cD h v23
  have e : x_P 23 I F = cD (hl I F) C0 24 := e
  refine g_waste (k := k) (JP_pok h) (hp _ _ _ ⟨?_, XS_p h v23⟩)
  rw [e, (ind_end h.1 h.2.1 C0).2.2.2]
theorem p_goldest (E : zE) (k : Nat) {I F : zI} (h : XJ I F)  : zVR E (k + 5) 518 [.ref 0] I F (fun v I' F' => v = some (.int (A_goldest (hl I F))) ∧ XS I F I' F') := by
  refine zVR_in 5 cX5_goldest 3 (some .int) zm_518 (by rw [zi_518]; rfl) (by rw [zi_518]) (Nat.le_of_ble_eq_true rfl) ?_
  intro Post hp
  show zG E 5 cX5_goldest 3 (some .int) false 0 0 (k + 4) 0 0 Post 0 [some (.ref 0), none, none] [] zSH 77 _ _ 0 0
  obtain ⟨C0, e⟩ := xP_cD h v23
  have e : x_P 23 I F = cD (hl I F) C0 24 := e
  refine g_goldest (k := k) (JP_pok h) (hp _ _ _ ⟨?_, XS_p h v23⟩)
  unfold x_goldest A_goldest
  rw [e, ← hh_np I F, x_go_congr _ (Nat.le_of_lt_succ (zn_of h.1.1 (by decide)).2) (ind_end h.1 h.2.1 C0).2.2.1]
theorem p_peace (E : zE) (k : Nat) {I F : zI} (h : XJ I F)  : zVR E (k + 5) 519 [.ref 0] I F (fun v I' F' => v = some (.int (a_peace (hl I F))) ∧ XS I F I' F') := by
  refine zVR_in 5 cX5_peace 1 (some .int) zm_519 (by rw [zi_519]; rfl) (by rw [zi_519]) (Nat.le_of_ble_eq_true rfl) ?_
  intro Post hp
  show zG E 5 cX5_peace 1 (some .int) false 0 0 (k + 4) 0 0 Post 0 [some (.ref 0)] [] zSH 77 _ _ 0 0
  obtain ⟨C0, e⟩ := xP_cD h v23
  have e : x_P 23 I F = cD (hl I F) C0 24 := e
  refine g_peace (k := k) (JP_pok h) (hp _ _ _ ⟨?_, XS_p h v23⟩)
  rw [e, ← ind_bits h.1 h.2.1 C0, hh_nq]
/-! the class: plans -/
theorem xT_cD (I F : zI) : x_T I F = cD (hl I F) (getC 26 I F) 24 := rfl
/-- rows of the trial course alone are changed -/
def XT (I F I' F' : zI) : Prop := (∀ j, ¬ (26 ≤ j ∧ j ≤ 34) → I' j = I j) ∧ (∀ j, ¬ j = 26 → F' j = F j)
theorem XT_refl (I F : zI) : XT I F I F := ⟨fun _ _ => rfl, fun _ _ => rfl⟩
theorem XT_t (I F : zI) : XT I F (x_tI I F) (x_tF I F) := ⟨fun j a => putC_out _ _ (by omega), fun j a => putf_out _ _ a⟩
theorem XT_hl {I F I' F' : zI} (h : XT I F I' F') : hl I' F' = hl I F := hl_eq (fun j a b => h.1 j (by omega)) (h.2 8 (by decide))
theorem XT_S {I F I' F' : zI} (h : XJ I F) (g : XT I F I' F') : XS I F I' F' := by
  have e := XT_hl g
  refine ⟨fun j a b => g.1 j (by omega), fun j a b c => g.2 j c, fun i _ => by rw [g.2 0 (by decide)], ?_, ?_⟩
  · have e17 : getC 17 I' F' = getC 17 I F := by
      unfold getC
      rw [g.1 (17 + 1) (by omega), g.1 (17 + 2) (by omega), g.1 (17 + 3) (by omega), g.1 (17 + 4) (by omega), g.1 (17 + 5) (by omega), g.1 (17 + 6) (by omega), g.1 (17 + 7) (by omega), g.1 (17 + 8) (by omega), g.2 17 (by decide)]
    unfold JP
    rw [e, e17, g.2 17 (by decide)]
    exact h.2.2.1
  · unfold JC
    rw [e, g.2 0 (by decide), g.1 35 (by omega)]
    exact h.2.2.2.1
theorem turn2 {q : Nat} {I J : zI} (h11 : J 11 = x_turn q I 11) (h12 : J 12 = x_turn q I 12) : x_turn q J 11 = I 11 ∧ x_turn q J 12 = I 12 := by
  have a1 : ∀ X : zI, x_turn q X 11 = upd (X 11) q (X 12 q) := fun X => by
    unfold x_turn
    rw [zu_ne (by decide), zu_eq]
  have a2 : ∀ X : zI, x_turn q X 12 = upd (X 12) q (X 11 q) := fun X => by
    unfold x_turn
    rw [zu_eq, zu_ne (by decide)]
  rw [a1, a2, h11, h12, a1, a2]
  constructor
  · funext j
    by_cases c : j = q
    · subst c
      rw [pk_us, pk_us]
    · rw [pk_un c, pk_un c]
  · funext j
    by_cases c : j = q
    · subst c
      rw [pk_us, pk_us]
    · rw [pk_un c, pk_un c]
theorem turn_out {q j : Nat} {I : zI} (h1 : ¬ j = 11) (h2 : ¬ j = 12) : x_turn q I j = I j := by
  unfold x_turn
  rw [zu_ne h2, zu_ne h1]
theorem p_chin (E : zE) (k : Nat) {I F : zI} (h : XJ I F) (q : Int32) (w : Int32) : zVR E (k + 5) 520 [.ref 0, .int q, .int w] I F (fun v I' F' => v = some (.int (A_chin (hl I F) q w)) ∧ XS I F I' F') := by
  refine zVR_in 5 cX5_chin 5 (some .int) zm_520 (by rw [zi_520]; rfl) (by rw [zi_520]) (Nat.le_of_ble_eq_true rfl) ?_
  intro Post hp
  show zG E 5 cX5_chin 5 (some .int) false 0 0 (k + 4) 0 0 Post 0 [some (.ref 0), some (.int q), some (.int w), none, none] [] zSH 77 _ _ 0 0
  refine g_chin (k := k) q w h.1 (hp _ _ _ ?_)
  unfold x_chin A_chin
  rw [hh_nq]
  by_cases c : (0 ≤ q ∧ q < F 8 3) ∧ (0 ≤ w ∧ w < 2)
  · rw [if_pos c, if_pos c]
    obtain ⟨q1, q2⟩ := XQ h c.1
    generalize q.toNatClampNeg = j at *
    have e1 : (x_ch j I F).1 = cb (aD (hl I F) 24) j := (ind_end h.1 h.2.1 (getC 26 I F)).1 j q2
    have hh : hl (x_turn j (x_tI I F)) (x_tF I F) = hturn j (hl I F) := rfl
    have e2 : (x_ch j I F).2 = cb (aD (hturn j (hl I F)) 24) j := by
      show cb (x_T (x_turn j (x_tI I F)) (x_tF I F)) j = _
      rw [xT_cD, hh]
      exact (ind_end (hok_turn2 h.1 q1) (hcut_turn h.2.1) _).1 j q2
    refine ⟨?_, XT_S h ⟨fun i hi => ?_, fun i hi => ?_⟩⟩
    · rw [e1, e2]
      rfl
    · obtain ⟨t1, t2⟩ := turn2 (q := j) (I := x_tI I F) (J := (x_ch2 j I F).1) rfl rfl
      by_cases c1 : i = 11
      · subst c1
        exact t1
      · by_cases c2 : i = 12
        · subst c2
          exact t2
        · show x_turn j (x_ch2 j I F).1 i = I i
          rw [turn_out c1 c2]
          show x_tI (x_turn j (x_tI I F)) (x_tF I F) i = I i
          rw [(XT_t _ _).1 i hi, turn_out c1 c2, (XT_t _ _).1 i hi]
    · show x_tF (x_turn j (x_tI I F)) (x_tF I F) i = F i
      rw [(XT_t _ _).2 i hi, (XT_t _ _).2 i hi]
  · rw [if_neg c, if_neg c]
    exact ⟨rfl, XS_refl h⟩
def dx_inv (q : Nat) (I F I1 F1 : zI) : Prop := (∀ j, ¬ (26 ≤ j ∧ j ≤ 34) → ¬ j = 13 → I1 j = I j) ∧ (∀ j, ¬ j = 26 → F1 j = F j) ∧ (∀ j, ¬ j = q → I1 13 j = I 13 j)
theorem dx_hl {q : Nat} {I F I1 F1 : zI} {v : Int32} (h : dx_inv q I F I1 F1) : hl (zu2 I1 13 q v) F1 = hbeg q v (hl I F) := by
  obtain ⟨h1, h2, h3⟩ := h
  have e : zu2 I1 13 q v 13 = upd (I 13) q v := by
    rw [zu_eq]
    funext j
    by_cases c : j = q
    · rw [c, pk_us, pk_us]
    · rw [pk_un c, pk_un c, h3 j c]
  show (zu2 I1 13 q v 9, zu2 I1 13 q v 10, zu2 I1 13 q v 11, zu2 I1 13 q v 12, zu2 I1 13 q v 13, zu2 I1 13 q v 14, zu2 I1 13 q v 15, zu2 I1 13 q v 16, F1 8 0, F1 8 3, F1 8 8, F1 8 9, F1 8 12) = (I 9, I 10, I 11, I 12, upd (I 13) q v, I 14, I 15, I 16, F 8 0, F 8 3, F 8 8, F 8 9, F 8 12)
  rw [e, h2 8 (by decide), zu_ne (by decide), zu_ne (by decide), zu_ne (by decide), zu_ne (by decide), zu_ne (by decide), zu_ne (by decide), zu_ne (by decide), h1 9 (by omega) (by decide), h1 10 (by omega) (by decide), h1 11 (by omega) (by decide), h1 12 (by omega) (by decide), h1 14 (by omega) (by decide), h1 15 (by omega) (by decide), h1 16 (by omega) (by decide)]
theorem dx_next {q : Nat} {I F I1 F1 : zI} {v : Int32} (h : dx_inv q I F I1 F1) : dx_inv q I F (x_tI (zu2 I1 13 q v) F1) (x_tF (zu2 I1 13 q v) F1) := by
  obtain ⟨h1, h2, h3⟩ := h
  refine ⟨fun j a b => ?_, fun j a => ?_, fun j a => ?_⟩
  · rw [(XT_t _ _).1 j a, zu_ne b, h1 j a b]
  · rw [(XT_t _ _).2 j a, h2 j a]
  · rw [(XT_t _ _).1 13 (by omega), zu_eq, pk_un a, h3 j a]
theorem da_eq {I F : zI} (h : XJ I F) (q : Nat) : ∀ r d b l I1 F1, dx_inv q I F I1 F1 → (x_da q r d b l I1 F1).1 = (a_da (hl I F) q r d b l).1 ∧ (x_da q r d b l I1 F1).2.1 = (a_da (hl I F) q r d b l).2 ∧ dx_inv q I F (x_da q r d b l I1 F1).2.2.1 (x_da q r d b l I1 F1).2.2.2 := by
  intro r
  induction r with
  | zero => exact fun d b l I1 F1 hi => ⟨rfl, rfl, hi⟩
  | succ r ih =>
    intro d b l I1 F1 hi
    have e : x_de q (nI d) I1 F1 = a_de (hl I F) q (nI d) := by
      unfold x_de a_de
      rw [xT_cD, dx_hl hi, ← ind_bits (hok_beg h.1) (hcut_beg h.2.1) (getC 26 (zu2 I1 13 q (nI d)) F1), nq_beg, hh_nq, hi.2.1 8 (by decide)]
    rw [x_da, a_da, e]
    by_cases c : a_de (hl I F) q (nI d) ≤ l
    · rw [if_pos c, if_pos c]
      exact ih (d + 1) b l _ _ (dx_next hi)
    · rw [if_neg c, if_neg c]
      exact ih (d + 1) (nI d) _ _ _ (dx_next hi)
theorem p_dawn (E : zE) (k : Nat) {I F : zI} (h : XJ I F) (q : Int32) (w : Int32) : zVR E (k + 5) 521 [.ref 0, .int q, .int w] I F (fun v I' F' => v = some (.int (A_dawn (hl I F) q w)) ∧ XS I F I' F') := by
  refine zVR_in 5 cX5_dawn 8 (some .int) zm_521 (by rw [zi_521]; rfl) (by rw [zi_521]) (Nat.le_of_ble_eq_true rfl) ?_
  intro Post hp
  show zG E 5 cX5_dawn 8 (some .int) false 0 0 (k + 4) 0 0 Post 0 [some (.ref 0), some (.int q), some (.int w), none, none, none, none, none] [] zSH 77 _ _ 0 0
  refine g_dawn (k := k) q w h.1 (hp _ _ _ ?_)
  unfold x_dawn A_dawn
  rw [hh_nq]
  by_cases c : (0 ≤ q ∧ q < F 8 3) ∧ (0 ≤ w ∧ w < 2)
  · rw [if_pos c, if_pos c]
    generalize q.toNatClampNeg = j at *
    obtain ⟨e1, e2, e3⟩ := da_eq h j 24 0 0 (-1) I F ⟨fun _ _ _ => rfl, fun _ _ => rfl, fun _ _ => rfl⟩
    refine ⟨?_, XT_S h ⟨fun i hi => ?_, e3.2.1⟩⟩
    · rw [e1, e2]
      rfl
    · by_cases c1 : i = 13
      · subst c1
        show zu2 _ 13 j (I 13 j) 13 = I 13
        rw [zu_eq]
        funext i
        by_cases c2 : i = j
        · rw [c2, pk_us]
        · rw [pk_un c2, e3.2.2 i c2]
      · show zu2 _ 13 j (I 13 j) i = I i
        rw [zu_ne c1, e3.1 i hi c1]
  · rw [if_neg c, if_neg c]
    exact ⟨rfl, XS_refl h⟩
def mx_inv (I F I1 F1 : zI) : Prop := (∀ j, ¬ (26 ≤ j ∧ j ≤ 34) → I1 j = I j) ∧ (∀ j, ¬ j = 26 → ¬ j = 8 → F1 j = F j) ∧ (∀ i, ¬ i = 8 → F1 8 i = F 8 i)
theorem mx_hl {I F I1 F1 : zI} {v : Int32} (h : mx_inv I F I1 F1) : hl I1 (zu2 F1 8 8 v) = hmon v (hl I F) := by
  obtain ⟨h1, h2, h3⟩ := h
  show (I1 9, I1 10, I1 11, I1 12, I1 13, I1 14, I1 15, I1 16, zu2 F1 8 8 v 8 0, zu2 F1 8 8 v 8 3, zu2 F1 8 8 v 8 8, zu2 F1 8 8 v 8 9, zu2 F1 8 8 v 8 12) = (I 9, I 10, I 11, I 12, I 13, I 14, I 15, I 16, F 8 0, F 8 3, v, F 8 9, F 8 12)
  rw [zu_eq, pk_us, pk_un (by decide), pk_un (by decide), pk_un (by decide), pk_un (by decide), h3 0 (by decide), h3 3 (by decide), h3 9 (by decide), h3 12 (by decide), h1 9 (by omega), h1 10 (by omega), h1 11 (by omega), h1 12 (by omega), h1 13 (by omega), h1 14 (by omega), h1 15 (by omega), h1 16 (by omega)]
theorem mo_eq {I F : zI} (h : XJ I F) : ∀ r d b l I1 F1, mx_inv I F I1 F1 → (x_mo r d b l I1 F1).1 = (a_mo (hl I F) r d b l).1 ∧ (x_mo r d b l I1 F1).2.1 = (a_mo (hl I F) r d b l).2 ∧ mx_inv I F (x_mo r d b l I1 F1).2.2.1 (x_mo r d b l I1 F1).2.2.2 := by
  intro r
  induction r with
  | zero => exact fun d b l I1 F1 hi => ⟨rfl, rfl, hi⟩
  | succ r ih =>
    intro d b l I1 F1 hi
    have e : cwa (x_T I1 (zu2 F1 8 8 (nI d))) = cwa (aD (hmon (nI d) (hl I F)) 24) := by
      rw [xT_cD, mx_hl hi]
      exact (ind_end (hok_mon h.1) (hcut_mon h.2.1) _).2.2.2
    have hn : mx_inv I F (x_tI I1 (zu2 F1 8 8 (nI d))) (x_tF I1 (zu2 F1 8 8 (nI d))) := by
      obtain ⟨h1, h2, h3⟩ := hi
      refine ⟨fun j a => ?_, fun j a b => ?_, fun i a => ?_⟩
      · rw [(XT_t _ _).1 j a, h1 j a]
      · rw [(XT_t _ _).2 j a, zu_ne b, h2 j a b]
      · rw [(XT_t _ _).2 8 (by decide), zu_eq, pk_un a, h3 i a]
    rw [x_mo, a_mo, e]
    by_cases c : l ≤ cwa (aD (hmon (nI d) (hl I F)) 24)
    · rw [if_pos c, if_pos c]
      exact ih (d + 1) b l _ _ hn
    · rw [if_neg c, if_neg c]
      exact ih (d + 1) (nI d) _ _ _ hn
theorem p_monday (E : zE) (k : Nat) {I F : zI} (h : XJ I F) (w : Int32) : zVR E (k + 5) 522 [.ref 0, .int w] I F (fun v I' F' => v = some (.int (A_monday (hl I F) w)) ∧ XS I F I' F') := by
  refine zVR_in 5 cX5_monday 5 (some .int) zm_522 (by rw [zi_522]; rfl) (by rw [zi_522]) (Nat.le_of_ble_eq_true rfl) ?_
  intro Post hp
  show zG E 5 cX5_monday 5 (some .int) false 0 0 (k + 4) 0 0 Post 0 [some (.ref 0), some (.int w), none, none, none] [] zSH 77 _ _ 0 0
  refine g_monday (k := k) w h.1 (hp _ _ _ ?_)
  unfold x_monday A_monday
  by_cases c : 0 ≤ w ∧ w < 2
  · rw [if_pos c, if_pos c]
    obtain ⟨e1, e2, e3⟩ := mo_eq h 24 0 0 2147483647 I F ⟨fun _ _ => rfl, fun _ _ _ => rfl, fun _ _ => rfl⟩
    refine ⟨?_, XT_S h ⟨e3.1, fun i hi => ?_⟩⟩
    · rw [e1, e2]
      rfl
    · by_cases c1 : i = 8
      · subst c1
        show zu2 _ 8 8 (-1) 8 = F 8
        rw [zu_eq]
        funext i
        by_cases c2 : i = 8
        · rw [c2, pk_us, h.2.2.2.2.1]
        · rw [pk_un c2, e3.2.2 i c2]
      · show zu2 _ 8 8 (-1) i = F i
        rw [zu_ne c1, e3.2.1 i hi c1]
  · rw [if_neg c, if_neg c]
    exact ⟨rfl, XS_refl h⟩
