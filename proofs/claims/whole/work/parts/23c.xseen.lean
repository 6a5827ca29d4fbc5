/-! the class: what was seen -/
theorem c_fit1 {np : Int32} {ds ps gs kk : zr} : ∀ r i, (∀ j, i ≤ j → j < i + r → ¬ (np ≤ ps j ∨ ¬ kk (ds j * 8 + ps j).toNatClampNeg = gs j)) → c_fit np ds ps gs kk r i = 1 := by
  intro r
  induction r with
  | zero => exact fun _ _ => rfl
  | succ r ih =>
    intro i h
    simp only [c_fit]
    rw [if_neg (h i (by omega) (by omega))]
    exact ih (i + 1) (fun j a b => h j (by omega) (by omega))
theorem c_fit0 {np : Int32} {ds ps gs kk : zr} {j : Nat} (hb : np ≤ ps j ∨ ¬ kk (ds j * 8 + ps j).toNatClampNeg = gs j) : ∀ r i, i ≤ j → j < i + r → c_fit np ds ps gs kk r i = 0 := by
  intro r
  induction r with
  | zero => exact fun i a b => absurd b (by omega)
  | succ r ih =>
    intro i h1 h2
    simp only [c_fit]
    by_cases c : j = i
    · subst c
      rw [if_pos hb]
    · split
      · rfl
      · exact ih (i + 1) (by omega) (by omega)
def okA (H : zH) (sg : zr) (i : Nat) : Prop := (0 ≤ sg (3 * i + 1) ∧ sg (3 * i + 1) < hnp H) ∧ cg (aD H ((sg (3 * i)).toNatClampNeg + 1)) (sg (3 * i + 1)).toNatClampNeg = sg (3 * i + 2)
theorem fitA1 {H : zH} {sg : zr} : ∀ n, (∀ j, j < n → okA H sg j) → fitA H sg n = 1 := by
  intro n
  induction n with
  | zero => exact fun _ => rfl
  | succ n ih =>
    intro h
    simp only [fitA]
    rw [ih (fun j hj => h j (by omega)), if_neg (by decide), if_neg (fun z => z (h n (by omega)).1), if_pos (h n (by omega)).2]
theorem fitA0 {H : zH} {sg : zr} {j : Nat} (hb : ¬ okA H sg j) : ∀ n, j < n → fitA H sg n = 0 := by
  intro n
  induction n with
  | zero => exact fun h => absurd h (by omega)
  | succ n ih =>
    intro h
    simp only [fitA]
    by_cases c : j = n
    · subst c
      split
      · rfl
      · split
        · rfl
        · next c2 =>
          split
          · next c3 => exact absurd ⟨Classical.not_not.mp c2, c3⟩ hb
          · rfl
    · rw [ih (by omega), if_pos rfl]
theorem fit_eq {H : zH} (hk : hok H) (hc : hcut H) (C0 : zC) {np : Int32} (hnp0 : np = hnp H) {ds ps gs sg : zr} {n : Nat} (hr : ∀ i, i < n → ds i = sg (3 * i) ∧ ps i = sg (3 * i + 1) ∧ gs i = sg (3 * i + 2) ∧ vp_in (ds i) 24 ∧ vp_in (ps i) 8) : c_fit np ds ps gs (ck (cD H C0 24)) n 0 = fitA H sg n := by
  subst hnp0
  have key : ∀ i, i < n → (¬ (hnp H ≤ ps i ∨ ¬ ck (cD H C0 24) (ds i * 8 + ps i).toNatClampNeg = gs i) ↔ okA H sg i) := by
    intro i hi
    obtain ⟨e1, e2, e3, v1, v2⟩ := hr i hi
    obtain ⟨d1, d2⟩ := zn_of v1 (by decide)
    obtain ⟨p1, p2⟩ := zn_of v2 (by decide)
    have ix : (ds i * 8 + ps i).toNatClampNeg = (ds i).toNatClampNeg * 8 + (ps i).toNatClampNeg := by
      rw [d1, p1, zd8, nI_clamp (by omega), nI_clamp (by omega), nI_clamp (by omega)]
    unfold okA
    rw [← e1, ← e2, ← e3, ix]
    have hpos : 0 ≤ ps i := by rw [p1]; exact nI_pos' (by omega)
    have val : ps i < hnp H → ck (cD H C0 24) ((ds i).toNatClampNeg * 8 + (ps i).toNatClampNeg) = cg (aD H ((ds i).toNatClampNeg + 1)) (ps i).toNatClampNeg := fun z => by
      rw [cD_ck hk C0 24 (by omega) _ _ d2 (p_lt hk ⟨hpos, z⟩).2.2]
      exact ((ind_day hk hc C0 d2).2.1 _ p2).1
    constructor
    · intro z
      have z1 : ps i < hnp H := Int32.not_le.mp (fun y => z (Or.inl y))
      have z2 : ck (cD H C0 24) ((ds i).toNatClampNeg * 8 + (ps i).toNatClampNeg) = gs i := Classical.not_not.mp (fun y => z (Or.inr y))
      exact ⟨⟨hpos, z1⟩, by rw [← val z1]; exact z2⟩
    · intro z y
      rcases y with y | y
      · exact absurd z.1.2 (Int32.not_lt.mpr y)
      · exact y ((val z.1.2).trans z.2)
  by_cases c : ∀ j, j < n → okA H sg j
  · rw [fitA1 n c, c_fit1 n 0 (fun j _ hj => (key j (by omega)).mpr (c j (by omega)))]
  · obtain ⟨j, hj⟩ := Classical.not_forall.mp c
    have h1 : j < n := Classical.byContradiction (fun z => hj (fun y => absurd y z))
    have h2 : ¬ okA H sg j := fun z => hj (fun _ => z)
    rw [fitA0 h2 n h1, c_fit0 (Classical.not_not.mp (fun z => h2 ((key j h1).mp z))) n 0 (by omega) (by omega)]
/-- the sightings as they stand in a heap whose other rows may differ -/
theorem xfit_eq {I F I1 F1 : zI} (hs : JS I F) (e37 : I1 37 = I 37) (e38 : I1 38 = I 38) (e39 : I1 39 = I 39) (e36 : F1 36 = F 36) {H : zH} (hh : hl I1 F1 = H) (hk : hok H) (hc : hcut H) : x_fit I1 F1 = fitA H (I 75) (F 50 33).toNatClampNeg := by
  unfold x_fit
  rw [xT_cD, hh, e37, e38, e39, e36, hs.1]
  refine fit_eq hk hc _ (by rw [← hh]; rfl) (fun i hi => ?_)
  rw [← hs.1] at hi
  exact hs.2.2 i hi
theorem JS_sok {I F : zI} (h : JS I F) : sok I F := ⟨h.2.1, fun i hi => (h.2.2 i hi).2.2.2⟩
def nx_inv (I F I1 F1 : zI) : Prop := (∀ j, ¬ (26 ≤ j ∧ j ≤ 34) → I1 j = I j) ∧ (∀ j, ¬ j = 26 → ¬ j = 8 → F1 j = F j) ∧ (∀ i, ¬ i = 12 → F1 8 i = F 8 i)
theorem nx_hl {I F I1 F1 : zI} {v : Int32} (h : nx_inv I F I1 F1) : hl I1 (zu2 F1 8 12 v) = hpre v (hl I F) := by
  obtain ⟨h1, h2, h3⟩ := h
  show (I1 9, I1 10, I1 11, I1 12, I1 13, I1 14, I1 15, I1 16, zu2 F1 8 12 v 8 0, zu2 F1 8 12 v 8 3, zu2 F1 8 12 v 8 8, zu2 F1 8 12 v 8 9, zu2 F1 8 12 v 8 12) = (I 9, I 10, I 11, I 12, I 13, I 14, I 15, I 16, F 8 0, F 8 3, F 8 8, F 8 9, v)
  rw [zu_eq, pk_us, pk_un (by decide), pk_un (by decide), pk_un (by decide), pk_un (by decide), h3 0 (by decide), h3 3 (by decide), h3 9 (by decide), h3 8 (by decide), h1 9 (by omega), h1 10 (by omega), h1 11 (by omega), h1 12 (by omega), h1 13 (by omega), h1 14 (by omega), h1 15 (by omega), h1 16 (by omega)]
theorem nx_next {I F I1 F1 : zI} {v : Int32} (h : nx_inv I F I1 F1) : nx_inv I F (x_tI I1 (zu2 F1 8 12 v)) (x_tF I1 (zu2 F1 8 12 v)) := by
  obtain ⟨h1, h2, h3⟩ := h
  refine ⟨fun j a => ?_, fun j a b => ?_, fun i a => ?_⟩
  · rw [(XT_t _ _).1 j a, h1 j a]
  · rw [(XT_t _ _).2 j a, zu_ne b, h2 j a b]
  · rw [(XT_t _ _).2 8 (by decide), zu_eq, pk_un a, h3 i a]
theorem ne_eq {I F : zI} (h : XJ I F) : ∀ r e b I1 F1, nx_inv I F I1 F1 → (x_ne (x_al F) r e b I1 F1).1 = a_ne (hl I F) (I 75) (F 50 33).toNatClampNeg r e b ∧ XT I F (x_ne (x_al F) r e b I1 F1).2.1 (x_ne (x_al F) r e b I1 F1).2.2 := by
  intro r
  induction r with
  | zero =>
    intro e b I1 F1 hi
    refine ⟨rfl, hi.1, fun j hj => ?_⟩
    show zu2 F1 8 12 (x_al F) j = F j
    by_cases c : j = 8
    · subst c
      rw [zu_eq]
      funext i
      by_cases c2 : i = 12
      · rw [c2, pk_us, h.2.2.2.2.2.1]
      · rw [pk_un c2, hi.2.2 i c2]
    · rw [zu_ne c, hi.2.1 j hj c]
  | succ r ih =>
    intro e b I1 F1 hi
    have ef : x_fit I1 (x_wo (x_al F) e F1) = fitA (hg (hl I F) (zb1 e)) (I 75) (F 50 33).toNatClampNeg := xfit_eq h.2.2.2.2.2.2.1 (hi.1 37 (by omega)) (hi.1 38 (by omega)) (hi.1 39 (by omega)) (by unfold x_wo; rw [zu_ne (by decide), hi.2.1 36 (by decide) (by decide)]) (H := hg (hl I F) (zb1 e)) (by unfold x_wo; rw [nx_hl hi]; rfl) (hok_pre h.1) (hcut_pre h.2.1)
    simp only [x_ne, a_ne]
    rw [ef]
    exact ih (e + 1) _ _ _ (nx_next hi)
theorem p_never (E : zE) (k : Nat) {I F : zI} (h : XJ I F)  : zVR E (k + 5) 526 [.ref 0] I F (fun v I' F' => v = some (.int (a_never (hl I F) (I 75) (F 50 33).toNatClampNeg)) ∧ XS I F I' F') := by
  refine zVR_in 5 cX5_never 4 (some .int) zm_526 (by rw [zi_526]; rfl) (by rw [zi_526]) (Nat.le_of_ble_eq_true rfl) ?_
  intro Post hp
  show zG E 5 cX5_never 4 (some .int) false 0 0 (k + 4) 0 0 Post 0 [some (.ref 0), none, none, none] [] zSH 77 _ _ 0 0
  obtain ⟨e1, e2⟩ := ne_eq h (F 8 9).toNatClampNeg 0 0 I F ⟨fun _ _ => rfl, fun _ _ _ => rfl, fun _ _ => rfl⟩
  exact g_never (k := k) ⟨h.1, JS_sok h.2.2.2.2.2.2.1⟩ (hp _ _ _ ⟨congrArg (fun z => some (Value.int z)) e1, XT_S h e2⟩)
def fx_inv (o p : Nat) (I F I1 F1 : zI) : Prop := (∀ j, ¬ (26 ≤ j ∧ j ≤ 34) → ¬ j = o → I1 j = I j) ∧ (∀ j, ¬ j = 26 → F1 j = F j) ∧ (∀ j, ¬ j = p → I1 o j = I o j)
theorem fx_row {o p : Nat} {I F I1 F1 : zI} {v : Int32} (h : fx_inv o p I F I1 F1) : zu2 I1 o p v o = upd (I o) p v := by
  rw [zu_eq]
  funext j
  by_cases c : j = p
  · rw [c, pk_us, pk_us]
  · rw [pk_un c, pk_un c, h.2.2 j c]
theorem fx_hl9 {p : Nat} {I F I1 F1 : zI} {v : Int32} (h : fx_inv 9 p I F I1 F1) : hl (zu2 I1 9 p v) F1 = hsor p v (hl I F) := by
  have e := fx_row (v := v) h
  obtain ⟨h1, h2, h3⟩ := h
  show (zu2 I1 9 p v 9, zu2 I1 9 p v 10, zu2 I1 9 p v 11, zu2 I1 9 p v 12, zu2 I1 9 p v 13, zu2 I1 9 p v 14, zu2 I1 9 p v 15, zu2 I1 9 p v 16, F1 8 0, F1 8 3, F1 8 8, F1 8 9, F1 8 12) = (upd (I 9) p v, I 10, I 11, I 12, I 13, I 14, I 15, I 16, F 8 0, F 8 3, F 8 8, F 8 9, F 8 12)
  rw [e, h2 8 (by decide), zu_ne (by decide), zu_ne (by decide), zu_ne (by decide), zu_ne (by decide), zu_ne (by decide), zu_ne (by decide), zu_ne (by decide), h1 10 (by omega) (by decide), h1 11 (by omega) (by decide), h1 12 (by omega) (by decide), h1 13 (by omega) (by decide), h1 14 (by omega) (by decide), h1 15 (by omega) (by decide), h1 16 (by omega) (by decide)]
theorem fx_hl10 {p : Nat} {I F I1 F1 : zI} {v : Int32} (h : fx_inv 10 p I F I1 F1) : hl (zu2 I1 10 p v) F1 = htem p v (hl I F) := by
  have e := fx_row (v := v) h
  obtain ⟨h1, h2, h3⟩ := h
  show (zu2 I1 10 p v 9, zu2 I1 10 p v 10, zu2 I1 10 p v 11, zu2 I1 10 p v 12, zu2 I1 10 p v 13, zu2 I1 10 p v 14, zu2 I1 10 p v 15, zu2 I1 10 p v 16, F1 8 0, F1 8 3, F1 8 8, F1 8 9, F1 8 12) = (I 9, upd (I 10) p v, I 11, I 12, I 13, I 14, I 15, I 16, F 8 0, F 8 3, F 8 8, F 8 9, F 8 12)
  rw [e, h2 8 (by decide), zu_ne (by decide), zu_ne (by decide), zu_ne (by decide), zu_ne (by decide), zu_ne (by decide), zu_ne (by decide), zu_ne (by decide), h1 9 (by omega) (by decide), h1 11 (by omega) (by decide), h1 12 (by omega) (by decide), h1 13 (by omega) (by decide), h1 14 (by omega) (by decide), h1 15 (by omega) (by decide), h1 16 (by omega) (by decide)]
theorem fx_next {o p : Nat} {I F I1 F1 : zI} {v : Int32} (ho : o < 26) (h : fx_inv o p I F I1 F1) : fx_inv o p I F (x_tI (zu2 I1 o p v) F1) (x_tF (zu2 I1 o p v) F1) := by
  obtain ⟨h1, h2, h3⟩ := h
  refine ⟨fun j a b => ?_, fun j a => ?_, fun j a => ?_⟩
  · rw [(XT_t _ _).1 j a, zu_ne b, h1 j a b]
  · rw [(XT_t _ _).2 j a, h2 j a]
  · rw [(XT_t _ _).1 o (by omega), zu_eq, pk_un a, h3 j a]
theorem fx_back {o p : Nat} {I F I1 F1 : zI} (ho : o < 26) (h : fx_inv o p I F I1 F1) : XT I F (zu2 I1 o p (I o p)) F1 := by
  refine ⟨fun j a => ?_, h.2.1⟩
  by_cases c : j = o
  · subst c
    rw [fx_row h]
    funext i
    by_cases c2 : i = p
    · rw [c2, pk_us]
    · rw [pk_un c2]
  · rw [zu_ne c, h.1 j a c]
theorem fv9_eq {I F : zI} (h : XJ I F) (p : Nat) : ∀ r v b I1 F1, fx_inv 9 p I F I1 F1 → (x_fv 9 p r v b I1 F1).1 = a_so (hl I F) p (I 75) (F 50 33).toNatClampNeg r v b ∧ fx_inv 9 p I F (x_fv 9 p r v b I1 F1).2.1 (x_fv 9 p r v b I1 F1).2.2 := by
  intro r
  induction r with
  | zero => exact fun v b I1 F1 hi => ⟨rfl, hi⟩
  | succ r ih =>
    intro v b I1 F1 hi
    have ef : x_fit (zu2 I1 9 p (nI v)) F1 = fitA (hsor p (nI v) (hl I F)) (I 75) (F 50 33).toNatClampNeg := xfit_eq h.2.2.2.2.2.2.1 (by rw [zu_ne (by decide)]; exact hi.1 37 (by omega) (by decide)) (by rw [zu_ne (by decide)]; exact hi.1 38 (by omega) (by decide)) (by rw [zu_ne (by decide)]; exact hi.1 39 (by omega) (by decide)) (hi.2.1 36 (by decide)) (fx_hl9 hi) (hok_sor h.1) (hcut_sor h.2.1)
    simp only [x_fv, a_so]
    rw [ef]
    exact ih (v + 1) _ _ _ (fx_next (by decide) hi)
theorem fv10_eq {I F : zI} (h : XJ I F) (p : Nat) : ∀ r v b I1 F1, fx_inv 10 p I F I1 F1 → (x_fv 10 p r v b I1 F1).1 = a_te (hl I F) p (I 75) (F 50 33).toNatClampNeg r v b ∧ fx_inv 10 p I F (x_fv 10 p r v b I1 F1).2.1 (x_fv 10 p r v b I1 F1).2.2 := by
  intro r
  induction r with
  | zero => exact fun v b I1 F1 hi => ⟨rfl, hi⟩
  | succ r ih =>
    intro v b I1 F1 hi
    have ef : x_fit (zu2 I1 10 p (nI v)) F1 = fitA (htem p (nI v) (hl I F)) (I 75) (F 50 33).toNatClampNeg := xfit_eq h.2.2.2.2.2.2.1 (by rw [zu_ne (by decide)]; exact hi.1 37 (by omega) (by decide)) (by rw [zu_ne (by decide)]; exact hi.1 38 (by omega) (by decide)) (by rw [zu_ne (by decide)]; exact hi.1 39 (by omega) (by decide)) (hi.2.1 36 (by decide)) (fx_hl10 hi) (hok_tem h.1) (hcut_tem h.2.1)
    simp only [x_fv, a_te]
    rw [ef]
    exact ih (v + 1) _ _ _ (fx_next (by decide) hi)
theorem p_was (E : zE) (k : Nat) {I F : zI} (h : XJ I F) (p : Int32) (w : Int32) : zVR E (k + 6) 527 [.ref 0, .int p, .int w] I F (fun v I' F' => v = some (.int (A_was (hl I F) p w (I 75) (F 50 33).toNatClampNeg)) ∧ XS I F I' F') := by
  refine zVR_in 5 cX5_was 3 (some .int) zm_527 (by rw [zi_527]; rfl) (by rw [zi_527]) (Nat.le_of_ble_eq_true rfl) ?_
  intro Post hp
  show zG E 5 cX5_was 3 (some .int) false 0 0 (k + 5) 0 0 Post 0 [some (.ref 0), some (.int p), some (.int w)] [] zSH 77 _ _ 0 0
  refine g_was (k := k) p w ⟨h.1, JS_sok h.2.2.2.2.2.2.1⟩ (hp _ _ _ ?_)
  unfold x_was A_was
  rw [hh_np]
  by_cases c : (0 ≤ p ∧ p < F 8 0) ∧ (0 ≤ w ∧ w < 2)
  · rw [if_pos c, if_pos c]
    unfold a_was
    by_cases cw : w = 0
    · rw [if_pos cw, if_pos cw]
      obtain ⟨e1, e2⟩ := fv9_eq h p.toNatClampNeg 3 0 0 I F ⟨fun _ _ _ => rfl, fun _ _ => rfl, fun _ _ => rfl⟩
      exact ⟨congrArg (fun z => some (Value.int z)) e1, XT_S h (fx_back (by decide) e2)⟩
    · rw [if_neg cw, if_neg cw]
      obtain ⟨e1, e2⟩ := fv10_eq h p.toNatClampNeg 9 1 0 I F ⟨fun _ _ _ => rfl, fun _ _ => rfl, fun _ _ => rfl⟩
      exact ⟨congrArg (fun z => some (Value.int z)) e1, XT_S h (fx_back (by decide) e2)⟩
  · rw [if_neg c, if_neg c]
    exact ⟨rfl, XS_refl h⟩
theorem p_years (E : zE) (k : Nat) {I F : zI} (h : XJ I F) (s : Int32) (n : Int32) (w : Int32) : zVR E (k + 5) 530 [.ref 0, .int s, .int n, .int w] I F (fun v I' F' => v = some (.int (A_years (hl I F) s n w)) ∧ XS I F I' F') := by
  refine zVR_in 5 cX5_years 4 (some .int) zm_530 (by rw [zi_530]; rfl) (by rw [zi_530]) (Nat.le_of_ble_eq_true rfl) ?_
  intro Post hp
  show zG E 5 cX5_years 4 (some .int) false 0 0 (k + 4) 0 0 Post 0 [some (.ref 0), some (.int s), some (.int n), some (.int w)] [] zSH 77 _ _ 0 0
  refine g_years (k := k) s n w ⟨h.1, h.2.2.2.2.2.2.2.1⟩ (hp _ _ _ ?_)
  unfold x_years A_years
  by_cases c : (0 ≤ n ∧ n < 25) ∧ (0 ≤ w ∧ w < 2)
  · rw [if_pos c, if_pos c]
    have hh : hl (x_y1 s n I) F = hyr s n (hl I F) := rfl
    have hk1 : hok (hyr s n (hl I F)) := hok_cw h.1
    have hc1 : hcut (hyr s n (hl I F)) := hcut_cw (rL_in s n _)
    refine ⟨?_, XT_S h ⟨fun j hj => ?_, fun j hj => (XT_t _ _).2 j hj⟩⟩
    · unfold a_years
      rw [xT_cD, hh]
      have e1 := ind_bits hk1 hc1 (getC 26 (x_y1 s n I) F)
      have e2 := (ind_end hk1 hc1 (getC 26 (x_y1 s n I) F)).2.2.1
      have np8 := (zn_of h.1.1 (by decide)).2
      have e3 : c_all (cg (cD (hyr s n (hl I F)) (getC 26 (x_y1 s n I) F) 24)) (F 8 0).toNatClampNeg = c_all (cg (aD (hyr s n (hl I F)) 24)) (hnp (hl I F)).toNatClampNeg := c_all_congr _ (fun p hp => e2 p (Nat.lt_of_lt_of_le hp (Nat.le_of_lt_succ np8)))
      rw [e3, ← e1]
      rfl
    · show va_up (x_tI (x_y1 s n I) F) 14 (p_rG 24 (p_sl 6 (x_tF (x_y1 s n I) F)) (x_tI (x_y1 s n I) F 7) (x_tI (x_y1 s n I) F 14)) j = I j
      by_cases c1 : j = 14
      · subst c1
        rw [va_eq]
        funext i
        unfold p_rG
        by_cases c2 : i < 24
        · rw [if_pos c2, h.2.2.2.2.2.2.2.2 i c2]
          rfl
        · rw [if_neg c2]
          show x_y1 s n I 14 i = I 14 i
          unfold x_y1
          rw [va_eq]
          exact if_neg c2
      · rw [va_ne c1, (XT_t _ _).1 j hj]
        unfold x_y1
        rw [va_ne c1]
  · rw [if_neg c, if_neg c]
    exact ⟨rfl, XS_refl h⟩
/-! the class: peace by events -/
theorem m255 (m : Int32) : ∃ j, j < 256 ∧ m &&& 255 = nI j := pk_andE m 8 (by decide)
theorem pw_eq {I F : zI} (h : XJ I F) (m : Int32) : (x_peaceWith m I F).1 = a_peace (hpre (m &&& 255) (hl I F)) ∧ XS I F (x_peaceWith m I F).2.1 (x_peaceWith m I F).2.2 := by
  obtain ⟨j, hj, em⟩ := m255 m
  have X0 : XS I F (x_pw0 I F).1 (x_pw0 I F).2 ∧ (x_pw0 I F).2 0 5 = 0 := by
    unfold x_pw0
    by_cases c : F 0 5 = 0
    · rw [if_pos c]
      exact ⟨XS_refl h, c⟩
    · rw [if_neg c]
      refine ⟨⟨fun j a b => va_ne (by omega), fun j a b c => zu_ne a, fun i a => ?_, ?_, ?_⟩, ?_⟩
      · show zu2 F 0 5 0 0 i = F 0 i
        rw [zu_eq, pk_un a]
      · exact h.2.2.1
      · intro _ i hi
        left
        show va_up I 35 (z_fill 256 (-1) (I 35)) 35 i = -1
        rw [va_eq]
        exact if_pos hi
      · show zu2 F 0 5 0 0 5 = 0
        rw [zu_eq, pk_us]
  unfold x_peaceWith
  obtain ⟨X1, X2⟩ := X0
  have h1 := XS_J h X1
  have eh := XS_hl X1
  generalize (x_pw0 I F).1 = I1 at *
  generalize (x_pw0 I F).2 = F1 at *
  rw [← eh]
  have jc : (m &&& 255).toNatClampNeg = j := by rw [em]; exact nI_clamp (by omega)
  have V : c_bits (ce (x_T I1 (zu2 F1 8 12 (m &&& 255)))) (F1 8 3).toNatClampNeg = a_peace (hpre (m &&& 255) (hl I1 F1)) := by
    rw [xT_cD, ← ind_bits (hok_pre h1.1) (hcut_pre h1.2.1) (getC 26 I1 (zu2 F1 8 12 (m &&& 255)))]
    rfl
  unfold x_pw
  rw [jc]
  by_cases c : I1 35 j = -1
  · rw [if_pos c]
    refine ⟨V, XS_trans X1 ⟨fun i a b => ?_, fun i a b c => ?_, fun i a => ?_, ?_, ?_⟩⟩
    · show zu2 (x_tI I1 (zu2 F1 8 12 (m &&& 255))) 35 j _ i = I1 i
      rw [zu_ne (by omega), (XT_t _ _).1 i (by omega)]
    · show zu2 (x_tF I1 (zu2 F1 8 12 (m &&& 255))) 8 12 (x_al F1) i = F1 i
      by_cases c8 : i = 8
      · subst c8
        rw [zu_eq, (XT_t _ _).2 8 (by decide), zu_eq]
        funext i
        by_cases c12 : i = 12
        · rw [c12, pk_us, h1.2.2.2.2.2.1]
        · rw [pk_un c12, pk_un c12]
      · rw [zu_ne c8, (XT_t _ _).2 i c, zu_ne c8]
    · show zu2 (x_tF I1 (zu2 F1 8 12 (m &&& 255))) 8 12 (x_al F1) 0 i = F1 0 i
      rw [zu_ne (by decide), (XT_t _ _).2 0 (by decide), zu_ne (by decide)]
    all_goals
      have f8 : zu2 (x_tF I1 (zu2 F1 8 12 (m &&& 255))) 8 12 (x_al F1) 8 = F1 8 := by
        rw [zu_eq, (XT_t _ _).2 8 (by decide), zu_eq]
        funext i
        by_cases c12 : i = 12
        · rw [c12, pk_us, h1.2.2.2.2.2.1]
        · rw [pk_un c12, pk_un c12]
      have hh : ∀ y, hl (zu2 (x_tI I1 (zu2 F1 8 12 (m &&& 255))) 35 j y) (zu2 (x_tF I1 (zu2 F1 8 12 (m &&& 255))) 8 12 (x_al F1)) = hl I1 F1 := fun y => hl_eq (fun i a b => by rw [zu_ne (by omega), (XT_t _ _).1 i (by omega)]) f8
    · unfold JP
      have e17 : ∀ y, getC 17 (zu2 (x_tI I1 (zu2 F1 8 12 (m &&& 255))) 35 j y) (zu2 (x_tF I1 (zu2 F1 8 12 (m &&& 255))) 8 12 (x_al F1)) = getC 17 I1 F1 := fun y => rfl
      show zu2 (x_tF I1 (zu2 F1 8 12 (m &&& 255))) 8 12 (x_al F1) 17 1 = -1 ∨ ∃ C0 n, n < 24 ∧ getC 17 (zu2 (x_tI I1 (zu2 F1 8 12 (m &&& 255))) 35 j _) (zu2 (x_tF I1 (zu2 F1 8 12 (m &&& 255))) 8 12 (x_al F1)) = cD (hl (zu2 (x_tI I1 (zu2 F1 8 12 (m &&& 255))) 35 j _) (zu2 (x_tF I1 (zu2 F1 8 12 (m &&& 255))) 8 12 (x_al F1))) C0 (n + 1)
      rw [hh, e17]
      exact h1.2.2.1
    · intro z i hi
      show zu2 (x_tI I1 (zu2 F1 8 12 (m &&& 255))) 35 j _ 35 i = -1 ∨ zu2 (x_tI I1 (zu2 F1 8 12 (m &&& 255))) 35 j _ 35 i = a_peace (hpre (nI i) (hl (zu2 (x_tI I1 (zu2 F1 8 12 (m &&& 255))) 35 j _) (zu2 (x_tF I1 (zu2 F1 8 12 (m &&& 255))) 8 12 (x_al F1))))
      rw [hh, zu_eq]
      by_cases ci : i = j
      · subst ci
        rw [pk_us, V, em]
        exact Or.inr rfl
      · rw [pk_un ci, (XT_t _ _).1 35 (by omega)]
        exact h1.2.2.2.1 X2 i hi
  · rw [if_neg c]
    refine ⟨?_, X1⟩
    rw [em]
    exact (h1.2.2.2.1 X2 j hj).resolve_left c
