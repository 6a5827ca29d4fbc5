/-! the course of the class and the rows of the reference: days, lives -/
theorem s_qs {H : zH} {h : zMh} (hk : hok H) (hm : mhl H h) {d : Nat} (hd : d < 24) : ∀ r q C M, q + r = (hnq H).toNatClampNeg → mrel H d q C M → mrel H d (hnq H).toNatClampNeg (c_qs H (nI d) r q C) (m_qs h d r q M) := by
  intro r
  induction r with
  | zero =>
    intro q C M hq hr
    obtain rfl : q = (hnq H).toNatClampNeg := by omega
    exact hr
  | succ r ih =>
    intro q C M hq hr
    simp only [c_qs, m_qs]
    exact ih (q + 1) _ _ (by omega) (s_step hk hm hd (by omega) hr)
theorem mbase_acc {n : Nat} {C : zC} {M : zMr × zMs} : mbase n C M ↔ (RN 8 M.1.2.2.1 (cb C) ∧ RN 8 M.1.2.2.2.1 (ce C) ∧ RN 8 M.1.2.2.2.2.1 (cg C) ∧ RN 8 M.1.2.2.2.2.2.1 (cs C) ∧ RN 8 M.1.2.2.2.2.2.2 (ct C) ∧ RN n M.1.2.1 (ch C) ∧ M.2.1 = cli C ∧ M.2.2 = cwa C ∧ vp_in (cli C) 21) := by
  obtain ⟨⟨g, s, t, hh, b, w, e, k⟩, ⟨td, li, wa, md, mp⟩⟩ := C
  obtain ⟨⟨st', h', b', o', g', s', t'⟩, ⟨k', w'⟩⟩ := M
  exact Iff.rfl
theorem s_evs {H : zH} {h : zMh} (hm : mhl H h) (kd d : Int32) : ∀ n, n ≤ (hne H).toNatClampNeg → c_evs H d kd n = m_many (xev h) (xgo h) kd d n ∧ ∃ m, m ≤ n ∧ c_evs H d kd n = nI m := by
  obtain ⟨b1, b2, b3, b4, b5, b6, b7, b8⟩ := hm
  intro n
  induction n with
  | zero => exact fun _ => ⟨rfl, 0, Nat.le_refl _, rfl⟩
  | succ n ih =>
    intro hn
    obtain ⟨i1, m, i2, i3⟩ := ih (by omega)
    obtain ⟨u1, u2, u3⟩ := b8 n (by omega)
    simp only [c_evs, m_many]
    rw [← u1, ← u2]
    by_cases c : (hpr H >>> (nI n &&& 31)) &&& 1 = 1 ∧ hek H n = kd ∧ hed H n = d
    · rw [if_pos c, if_pos ⟨c.2.1, c.2.2, u3.mp c.1⟩, i1]
      exact ⟨rfl, m + 1, by omega, by rw [← i1, i3, nI_1]⟩
    · rw [if_neg c, if_neg (fun z => c ⟨u3.mpr z.2.2, z.1, z.2.1⟩), i1]
      exact ⟨by rw [show ∀ x : Int32, x + 0 = x from fun x => by grind], m, by omega, by rw [← i1, i3]⟩
theorem s_wash (x : Int32) : ∀ r p g g', p + r ≤ 8 → RN 8 g' g → RN 8 (c_wash x r p g') (c_wash x r p g) := by
  intro r
  induction r with
  | zero => exact fun p g g' _ h => h
  | succ r ih =>
    intro p g g' hp h
    simp only [c_wash]
    exact ih (p + 1) _ _ (by omega) (RN_upd h (by rw [h p (by omega)]))
theorem zmn_nI {a b : Nat} (ha : a < 2 ^ 31) (hb : b < 2 ^ 31) : zmn (nI a) (nI b) = nI (min b a) := by
  unfold zmn
  by_cases c : b < a
  · rw [if_pos ((nI_ltI hb ha).mpr c), Nat.min_eq_left (by omega)]
  · rw [if_neg (fun z => c ((nI_ltI hb ha).mp z)), Nat.min_eq_right (by omega)]
theorem s_stk {H : zH} {h : zMh} (hk : hok H) (hm : mhl H h) (hc : hcut H) {d : Nat} (hd : d < 24) {li : Int32} (hl : vp_in li 21) : zmn 20 (li + c_lil H (nI d)) = m_stk h d li ∧ vp_in (m_stk h d li) 21 := by
  have hm' := hm
  obtain ⟨b1, b2, b3, b4, b5, b6, b7, b8⟩ := hm'
  obtain ⟨e1, m, e2, e3⟩ := s_evs hm 1 (nI d) _ (Nat.le_refl _)
  obtain ⟨a, ha, rfl⟩ := vp_in_of hl (by decide)
  obtain ⟨c, hc, ec⟩ := vp_in_of (hc d hd) (by decide)
  have d2 : (nI d).toNatClampNeg = d := nI_clamp (by omega)
  have hne8 := (zn_of hk.2.2.1 (by decide)).2
  unfold c_lil m_stk
  rw [← b3, ← e1, ← b4, ← b7 d hd, d2, ec, e3]
  have z1 : (0 < nI m) = (¬ nI m = 0) := by
    rw [show (0 : Int32) = nI 0 from rfl, znlt (by decide) (by omega), zneq (by omega) (by decide)]
    exact propext (by omega)
  have z2 : (nI d = hmo H) = (hmo H = nI d) := propext ⟨Eq.symm, Eq.symm⟩
  have n20 : (20 : Int32) = nI 20 := rfl
  have n5 : (5 : Int32) = nI 5 := rfl
  have n0 : (0 : Int32) = nI 0 := rfl
  have K : ∀ x y : Nat, x = y → y < 21 → nI x = nI y ∧ vp_in (nI y) 21 := fun x y e hy => ⟨congrArg nI e, vp_in_nI hy (by decide)⟩
  by_cases c1 : nI m = 0
  · rw [if_neg (by rw [z1]; exact fun z => z c1), if_pos c1]
    by_cases c2 : hmo H = nI d
    · rw [if_pos (c2.symm), if_pos c2, n20, n5]
      simp only [nI_add]
      rw [zmn_nI (a := 20) (b := a + (c + 5)) (by omega) (by omega), zmn_nI (a := 20) (b := a + c) (by omega) (by omega), nI_add, zmn_nI (by omega) (by omega)]
      exact K _ _ (by omega) (by omega)
    · rw [if_neg (fun z => c2 z.symm), if_neg c2, n20, n0]
      simp only [nI_add]
      rw [zmn_nI (a := 20) (b := a + (c + 0)) (by omega) (by omega), zmn_nI (a := 20) (b := a + c) (by omega) (by omega)]
      exact K _ _ (by omega) (by omega)
  · rw [if_pos (by rw [z1]; exact c1), if_neg c1]
    by_cases c2 : hmo H = nI d
    · rw [if_pos (c2.symm), if_pos c2, n20, n5, n0]
      simp only [nI_add]
      rw [zmn_nI (a := 20) (b := a + (0 + 5)) (by omega) (by omega)]
      exact ⟨trivial, vp_in_nI (by omega) (by decide)⟩
    · rw [if_neg (fun z => c2 z.symm), if_neg c2, n20, n0]
      simp only [nI_add]
      rw [zmn_nI (a := 20) (b := a + (0 + 0)) (by omega) (by omega)]
      exact K _ _ (by omega) (by omega)
theorem s_rain {H : zH} {h : zMh} (hk : hok H) (hm : mhl H h) (hc : hcut H) {d : Nat} (hd : d < 24) {n : Nat} {C : zC} {M : zMr × zMs} (hb : mbase n C M) : mbase n (c_rain H (nI d) C) (m_wet h d M) ∧ (m_wet h d M).1.1 = M.1.1 ∧ ce (c_rain H (nI d) C) = ce C ∧ cw (c_rain H (nI d) C) = cw C ∧ cb (c_rain H (nI d) C) = cb C := by
  obtain ⟨⟨g, s, t, hh, b, w, e, k⟩, ⟨td, li, wa, md, mp⟩⟩ := C
  obtain ⟨⟨st', h', b', o', g', s', t'⟩, ⟨k', w'⟩⟩ := M
  obtain ⟨r1, r2, r3, r4, r5, r6, rfl, rfl, r9⟩ := hb
  have hnp8 := (zn_of hk.1 (by decide)).2
  obtain ⟨s1, s2⟩ := s_stk hk hm hc hd r9
  have e0 := (s_evs hm 0 (nI d) _ (Nat.le_refl _)).1
  refine ⟨⟨r1, r2, ?_, r4, r5, r6, s1.symm, rfl, by rw [s1]; exact s2⟩, rfl, rfl, rfl, rfl⟩
  obtain ⟨b1, b2, b3, b4, b5, b6, b7, b8⟩ := hm
  show RN 8 (c_wash (2 * m_many (xev h) (xgo h) 0 (nI d) (xne h).toNatClampNeg) (xnp h).toNatClampNeg 0 g') (c_wash (2 * c_evs H (nI d) 0 (hne H).toNatClampNeg) (hnp H).toNatClampNeg 0 g)
  rw [e0, ← b3, ← b1]
  exact s_wash _ _ _ _ _ (by omega) r3
theorem c_keep_same (d : Nat) : ∀ r p C, cg (c_keep d r p C) = cg C ∧ cs (c_keep d r p C) = cs C ∧ ct (c_keep d r p C) = ct C ∧ ch (c_keep d r p C) = ch C ∧ cb (c_keep d r p C) = cb C ∧ cw (c_keep d r p C) = cw C ∧ ce (c_keep d r p C) = ce C ∧ cli (c_keep d r p C) = cli C ∧ cwa (c_keep d r p C) = cwa C := by
  intro r
  induction r with
  | zero => exact fun p C => ⟨rfl, rfl, rfl, rfl, rfl, rfl, rfl, rfl, rfl⟩
  | succ r ih =>
    intro p C
    simp only [c_keep]
    have := ih (p + 1) (c_keep1 d p C)
    obtain ⟨⟨g, s, t, hh, b, w, e, k⟩, ⟨td, li, wa, md, mp⟩⟩ := C
    exact this
theorem c_day_same (d : Int32) (C : zC) : (c_day d C).1 = C.1 ∧ cli (c_day d C) = cli C ∧ cwa (c_day d C) = cwa C ∧ ctd (c_day d C) = d := by
  obtain ⟨R, ⟨td, li, wa, md, mp⟩⟩ := C
  exact ⟨rfl, rfl, rfl, rfl⟩
theorem c_ends {d : Int32} {dn r p : Nat} (C : zC) : (cg (c_day d (c_keep dn r p C)) = cg C ∧ cs (c_day d (c_keep dn r p C)) = cs C ∧ ct (c_day d (c_keep dn r p C)) = ct C ∧ ch (c_day d (c_keep dn r p C)) = ch C ∧ cb (c_day d (c_keep dn r p C)) = cb C ∧ cw (c_day d (c_keep dn r p C)) = cw C ∧ ce (c_day d (c_keep dn r p C)) = ce C ∧ cli (c_day d (c_keep dn r p C)) = cli C ∧ cwa (c_day d (c_keep dn r p C)) = cwa C) ∧ ctd (c_day d (c_keep dn r p C)) = d := by
  have h := c_keep_same dn r p C
  generalize c_keep dn r p C = D at *
  obtain ⟨R, ⟨td, li, wa, md, mp⟩⟩ := D
  exact ⟨h, rfl⟩
def drel (H : zH) (d : Nat) (C : zC) (M : zMr × zMs) : Prop := mbase (hnq H).toNatClampNeg C M ∧ ∀ q, q < (hnq H).toNatClampNeg → mpre H d C (M.1.1 q) q
theorem s_pass {H : zH} {h : zMh} (hk : hok H) (hm : mhl H h) (hc : hcut H) {d : Nat} (hd : d < 24) {C : zC} {M : zMr × zMs} (hr : drel H d C M) : mbase (hnq H).toNatClampNeg (c_pass H (nI d) C) (m_pq h d M) ∧ (∀ q, q < (hnq H).toNatClampNeg → mpost H d (c_pass H (nI d) C) ((m_pq h d M).1.1 q) q) ∧ ctd (c_pass H (nI d) C) = nI d := by
  obtain ⟨r1, r2⟩ := hr
  obtain ⟨a1, a2, a3, a4, a5⟩ := s_rain hk hm hc hd r1
  have q0 : mrel H d 0 (c_rain H (nI d) C) (m_wet h d M) := ⟨a1, fun q _ z => absurd z (by omega), fun q hq _ => mpre_eq (r2 q hq) (by rw [a3]) (by rw [a4]) (by rw [a5]) (by rw [a2])⟩
  obtain ⟨q1, q2, q3⟩ := s_qs hk hm hd _ 0 _ _ (Nat.zero_add _) q0
  have e2 : (hnq H).toNatClampNeg = (xnq h).toNatClampNeg := by rw [hm.2.1]
  unfold c_pass m_pq
  rw [← e2]
  generalize c_qs H (nI d) (hnq H).toNatClampNeg 0 (c_rain H (nI d) C) = C1 at *
  generalize m_qs h d (hnq H).toNatClampNeg 0 (m_wet h d M) = M1 at *
  obtain ⟨⟨u1, u2, u3, u4, u5, u6, u7, u8, u9⟩, u10⟩ := c_ends (d := nI d) (dn := (nI d).toNatClampNeg) (r := (hnp H).toNatClampNeg) (p := 0) C1
  refine ⟨?_, fun q hq => mpost_eq (q2 q hq hq) (by rw [u7]) (by rw [u6]) (by rw [u5]) rfl, u10⟩
  rw [mbase_acc] at q1 ⊢
  rw [u1, u2, u3, u4, u5, u7, u8, u9]
  exact q1
theorem s_next {H : zH} {d q : Nat} (hd : d < 24) {C : zC} {x : Int32} (h : mpost H d C x q) : mpre H (d + 1) C x q := by
  obtain ⟨h1, h2, n, h3, h4⟩ := h
  subst h1
  unfold c_stq
  refine ⟨fun c => by rw [if_pos c], fun c c' => by rw [if_neg (fun z => z c), if_pos c'], fun c c' => ?_, fun d' a b => h2 d' (by omega) b, n, by omega, h4⟩
  rw [if_neg (fun z => z c), if_neg (fun z => z c')]
  constructor
  · split
    · decide
    · split <;> decide
  · intro z
    rw [if_pos (Int32.lt_trans (nI_lt (by omega) (by omega)) z)]
theorem c_state_eq (H : zH) (q : Nat) (C : zC) : c_state H (hbe H) q C = c_stq H (ctd C) C q := by
  obtain ⟨⟨g, s, t, hh, b, w, e, k⟩, ⟨td, li, wa, md, mp⟩⟩ := C
  rfl
def by_row (d : Nat) (f : zr) : Nat → Nat → zr → zr
  | 0, _, a => a
  | r + 1, i, a => by_row d f r (i + 1) (upd a (8 * d + i) (f i))
theorem m_by_eq (d : Nat) (R : zMr) : ∀ r i B, m_by d R r i B = (by_row d R.1 r i B.1, by_row d R.2.1 r i B.2.1, by_row d R.2.2.1 r i B.2.2.1, by_row d R.2.2.2.2.1 r i B.2.2.2.1, by_row d R.2.2.2.2.2.1 r i B.2.2.2.2.1, by_row d R.2.2.2.2.2.2 r i B.2.2.2.2.2.1, B.2.2.2.2.2.2) := by
  intro r
  induction r with
  | zero => exact fun i B => rfl
  | succ r ih =>
    intro i B
    simp only [m_by, by_row]
    rw [ih]
    rfl
theorem by_row_at (d : Nat) (f : zr) : ∀ r i a j, by_row d f r i a j = if 8 * d + i ≤ j ∧ j < 8 * d + i + r then f (j - 8 * d) else a j := by
  intro r
  induction r with
  | zero =>
    intro i a j
    rw [if_neg (by omega)]
    rfl
  | succ r ih =>
    intro i a j
    simp only [by_row]
    rw [ih]
    by_cases c : j = 8 * d + i
    · subst c
      rw [if_neg (by omega), if_pos (by omega), pk_us]
      exact congrArg f (by omega)
    · rw [pk_un c]
      by_cases c2 : 8 * d + i + 1 ≤ j ∧ j < 8 * d + i + 1 + r
      · rw [if_pos (by omega), if_pos (by omega)]
      · rw [if_neg (by omega), if_neg (by omega)]
noncomputable def cD (H : zH) (C0 : zC) (n : Nat) : zC := c_days H n 0 (c_clear H C0)
theorem c_days_succ (H : zH) : ∀ n d C, c_days H (n + 1) d C = c_pass H (nI (d + n)) (c_days H n d C) := by
  intro n
  induction n with
  | zero => exact fun d C => rfl
  | succ n ih =>
    intro d C
    show c_days H (n + 1) (d + 1) (c_pass H (nI d) C) = _
    rw [ih, show d + 1 + n = d + (n + 1) by omega]
    rfl
theorem cD_succ (H : zH) (C0 : zC) (n : Nat) : cD H C0 (n + 1) = c_pass H (nI n) (cD H C0 n) := by
  unfold cD
  rw [c_days_succ, Nat.zero_add]
def brel (H : zH) (C0 : zC) (n : Nat) (B : zMr) : Prop := ∀ d, d < n → (∀ q, q < (hnq H).toNatClampNeg → B.1 (8 * d + q) = c_state H (hbe H) q (cD H C0 (d + 1)) ∧ B.2.1 (8 * d + q) = ch (cD H C0 (d + 1)) q ∧ B.2.2.1 (8 * d + q) = cb (cD H C0 (d + 1)) q) ∧ (∀ p, p < 8 → B.2.2.2.1 (8 * d + p) = cg (cD H C0 (d + 1)) p ∧ B.2.2.2.2.1 (8 * d + p) = cs (cD H C0 (d + 1)) p ∧ B.2.2.2.2.2.1 (8 * d + p) = ct (cD H C0 (d + 1)) p) ∧ B.2.2.2.2.2.2 d = cli (cD H C0 (d + 1))
theorem s_bynew {H : zH} {C0 : zC} {d : Nat} (hk : hok H) {M : zMr × zMs} {B : zMr} (hb : mbase (hnq H).toNatClampNeg (cD H C0 (d + 1)) M) (hs : ∀ q, q < (hnq H).toNatClampNeg → M.1.1 q = c_state H (hbe H) q (cD H C0 (d + 1))) (hB : brel H C0 d B) : brel H C0 (d + 1) (m_end24 d M B) := by
  have hn8 : (hnq H).toNatClampNeg ≤ 8 := Nat.le_of_lt_succ (zn_of hk.2.1 (by decide)).2
  have e : m_end24 d M B = (by_row d M.1.1 8 0 B.1, by_row d M.1.2.1 8 0 B.2.1, by_row d M.1.2.2.1 8 0 B.2.2.1, by_row d M.1.2.2.2.2.1 8 0 B.2.2.2.1, by_row d M.1.2.2.2.2.2.1 8 0 B.2.2.2.2.1, by_row d M.1.2.2.2.2.2.2 8 0 B.2.2.2.2.2.1, upd B.2.2.2.2.2.2 d M.2.1) := by
    unfold m_end24
    rw [m_by_eq]
    rfl
  rw [e]
  rw [mbase_acc] at hb
  obtain ⟨q1, q2, q3, q4, q5, q6, q7, q8, q9⟩ := hb
  intro d' hd'
  by_cases c : d' = d
  · subst c
    refine ⟨fun q hq => ⟨?_, ?_, ?_⟩, fun p hp => ⟨?_, ?_, ?_⟩, ?_⟩
    · show by_row d' M.1.1 8 0 B.1 (8 * d' + q) = _
      rw [by_row_at, if_pos (by omega), Nat.add_sub_cancel_left]
      exact hs q hq
    · show by_row d' M.1.2.1 8 0 B.2.1 (8 * d' + q) = _
      rw [by_row_at, if_pos (by omega), Nat.add_sub_cancel_left]
      exact q6 q hq
    · show by_row d' M.1.2.2.1 8 0 B.2.2.1 (8 * d' + q) = _
      rw [by_row_at, if_pos (by omega), Nat.add_sub_cancel_left]
      exact q1 q (by omega)
    · show by_row d' M.1.2.2.2.2.1 8 0 B.2.2.2.1 (8 * d' + p) = _
      rw [by_row_at, if_pos (by omega), Nat.add_sub_cancel_left]
      exact q3 p hp
    · show by_row d' M.1.2.2.2.2.2.1 8 0 B.2.2.2.2.1 (8 * d' + p) = _
      rw [by_row_at, if_pos (by omega), Nat.add_sub_cancel_left]
      exact q4 p hp
    · show by_row d' M.1.2.2.2.2.2.2 8 0 B.2.2.2.2.2.1 (8 * d' + p) = _
      rw [by_row_at, if_pos (by omega), Nat.add_sub_cancel_left]
      exact q5 p hp
    · show upd B.2.2.2.2.2.2 d' M.2.1 d' = _
      rw [pk_us]
      exact q7
  · obtain ⟨t1, t2, t3⟩ := hB d' (by omega)
    refine ⟨fun q hq => ⟨?_, ?_, ?_⟩, fun p hp => ⟨?_, ?_, ?_⟩, ?_⟩
    · show by_row d M.1.1 8 0 B.1 (8 * d' + q) = _
      rw [by_row_at, if_neg (by omega)]
      exact (t1 q hq).1
    · show by_row d M.1.2.1 8 0 B.2.1 (8 * d' + q) = _
      rw [by_row_at, if_neg (by omega)]
      exact (t1 q hq).2.1
    · show by_row d M.1.2.2.1 8 0 B.2.2.1 (8 * d' + q) = _
      rw [by_row_at, if_neg (by omega)]
      exact (t1 q hq).2.2
    · show by_row d M.1.2.2.2.2.1 8 0 B.2.2.2.1 (8 * d' + p) = _
      rw [by_row_at, if_neg (by omega)]
      exact (t2 p hp).1
    · show by_row d M.1.2.2.2.2.2.1 8 0 B.2.2.2.2.1 (8 * d' + p) = _
      rw [by_row_at, if_neg (by omega)]
      exact (t2 p hp).2.1
    · show by_row d M.1.2.2.2.2.2.2 8 0 B.2.2.2.2.2.1 (8 * d' + p) = _
      rw [by_row_at, if_neg (by omega)]
      exact (t2 p hp).2.2
    · show upd B.2.2.2.2.2.2 d M.2.1 d' = _
      rw [pk_un c]
      exact t3
theorem s_days {H : zH} {h : zMh} (hk : hok H) (hm : mhl H h) (hc : hcut H) (C0 : zC) : ∀ r d M B, d + r = 24 → drel H d (cD H C0 d) M → (0 < d → ∀ q, q < (hnq H).toNatClampNeg → M.1.1 q = c_state H (hbe H) q (cD H C0 d)) → brel H C0 d B → mbase (hnq H).toNatClampNeg (cD H C0 24) (m_days h r d M B).1 ∧ (∀ q, q < (hnq H).toNatClampNeg → (m_days h r d M B).1.1.1 q = c_state H (hbe H) q (cD H C0 24)) ∧ brel H C0 24 (m_days h r d M B).2 := by
  intro r
  induction r with
  | zero =>
    intro d M B hd h1 h2 h3
    obtain rfl : d = 24 := by omega
    exact ⟨h1.1, h2 (by omega), h3⟩
  | succ r ih =>
    intro d M B hd h1 h2 h3
    obtain ⟨p1, p2, p3⟩ := s_pass hk hm hc (show d < 24 by omega) h1
    rw [← cD_succ] at p1 p2 p3
    have p4 : ∀ q, q < (hnq H).toNatClampNeg → (m_pq h d M).1.1 q = c_state H (hbe H) q (cD H C0 (d + 1)) := fun q hq => by
      rw [c_state_eq, p3]
      exact (p2 q hq).1
    simp only [m_days]
    exact ih (d + 1) _ _ (by omega) ⟨p1, fun q hq => s_next (by omega) (p2 q hq)⟩ (fun _ => p4) (s_bynew hk p1 p4 h3)
def ini_row (f : zr) : Nat → Nat → zr → zr
  | 0, _, a => a
  | r + 1, i, a => ini_row f r (i + 1) (upd a i (f i))
theorem ini_row_at (f : zr) : ∀ r i a j, ini_row f r i a j = if i ≤ j ∧ j < i + r then f j else a j := by
  intro r
  induction r with
  | zero =>
    intro i a j
    rw [if_neg (by omega)]
    rfl
  | succ r ih =>
    intro i a j
    simp only [ini_row]
    rw [ih]
    by_cases c : j = i
    · subst c
      rw [if_neg (by omega), if_pos (by omega), pk_us]
    · rw [pk_un c]
      by_cases c2 : i + 1 ≤ j ∧ j < i + 1 + r
      · rw [if_pos (by omega), if_pos (by omega)]
      · rw [if_neg (by omega), if_neg (by omega)]
theorem m_ini_eq (H : zMh) : ∀ r i R, m_ini H r i R = (ini_row (fun i => @ite _ (m_is H i) (m_isD H i) 0 4) r i R.1, ini_row (fun i => @ite _ (m_is H i) (m_isD H i) (xpe H (2 * xqu H (3 * i) + 1).toNatClampNeg + xpe H (2 * xqu H (3 * i + 1) + 1).toNatClampNeg) 0) r i R.2.1, ini_row (fun _ => 0) r i R.2.2.1, ini_row (fun _ => -1) r i R.2.2.2.1, ini_row (fun _ => 0) r i R.2.2.2.2.1, ini_row (fun _ => 0) r i R.2.2.2.2.2.1, ini_row (fun _ => 0) r i R.2.2.2.2.2.2) := by
  intro r
  induction r with
  | zero => exact fun i R => rfl
  | succ r ih =>
    intro i R
    simp only [m_ini, ini_row]
    rw [ih]
    rfl
theorem c_clr_at (H : zH) : ∀ r q h j, c_clr H r q h j = if q ≤ j ∧ j < q + r then (if c_vi H j = 0 then hte H (hfi H j).toNatClampNeg + hte H (hwh H j).toNatClampNeg else 0) else h j := by
  intro r
  induction r with
  | zero =>
    intro q h j
    rw [if_neg (show ¬ (q ≤ j ∧ j < q + 0) by omega)]
    rfl
  | succ r ih =>
    intro q h j
    simp only [c_clr]
    rw [ih]
    by_cases c : j = q
    · subst c
      rw [if_neg (show ¬ (j + 1 ≤ j ∧ j < j + 1 + r) by omega), if_pos (show j ≤ j ∧ j < j + (r + 1) by omega), pk_us]
    · rw [pk_un c]
      by_cases c2 : q + 1 ≤ j ∧ j < q + 1 + r
      · rw [if_pos c2, if_pos (show q ≤ j ∧ j < q + (r + 1) by omega)]
      · rw [if_neg c2, if_neg (show ¬ (q ≤ j ∧ j < q + (r + 1)) by omega)]
theorem m_is_eq {H : zH} {h : zMh} (hk : hok H) (hm : mhl H h) {q : Nat} (hq : q < (hnq H).toNatClampNeg) : m_is h q ↔ c_vi H q = 0 := by
  obtain ⟨k1, k2, k3, k4⟩ := hk
  obtain ⟨b1, b2, b3, b4, b5, b6, b7, b8⟩ := hm
  obtain ⟨u1, u2, u3⟩ := b6 q hq
  obtain ⟨f1, f2⟩ := k4 q hq
  obtain ⟨f3, f4⟩ := zn_of f1 (by decide)
  obtain ⟨f5, f6⟩ := zn_of f2 (by decide)
  obtain ⟨g1, g2⟩ := zn_of k2 (by decide)
  rw [c_vi0]
  unfold m_is c_void
  rw [← b1, ← b2, ← u1, ← u2]
  have n1 : nI q < hnq H := by rw [g1, nI_ltI (by omega) (by omega)]; exact hq
  have n2 : 0 ≤ hfi H q := by rw [f3]; exact nI_pos' (by omega)
  have n3 : 0 ≤ hwh H q := by rw [f5]; exact nI_pos' (by omega)
  constructor
  · intro ⟨_, a, b, c⟩ z
    rcases z with z | z | z
    · exact absurd a.2 (Int32.not_lt.mpr z)
    · exact absurd b.2 (Int32.not_lt.mpr z)
    · exact c z
  · intro z
    exact ⟨n1, ⟨n2, Int32.not_le.mp (fun y => z (Or.inl y))⟩, ⟨n3, Int32.not_le.mp (fun y => z (Or.inr (Or.inl y)))⟩, fun y => z (Or.inr (Or.inr y))⟩
theorem m_pe1 {H : zH} {h : zMh} (hk : hok H) (hm : mhl H h) {x : Int32} (h1 : vp_in x 8) (h2 : x < hnp H) : xpe h (2 * x + 1).toNatClampNeg = hte H x.toNatClampNeg := by
  obtain ⟨f3, f4⟩ := zn_of h1 (by decide)
  obtain ⟨g1, g2⟩ := zn_of hk.1 (by decide)
  generalize x.toNatClampNeg = j at *
  subst f3
  rw [g1, nI_ltI (by omega) (by omega)] at h2
  rw [zm2, nI_1, nI_clamp (by omega)]
  exact (hm.2.2.2.2.1 j h2).2.symm
theorem s_ini {H : zH} {h : zMh} (hk : hok H) (hm : mhl H h) (C0 : zC) (R : zMr) : drel H 0 (cD H C0 0) (m_ini h 8 0 R, (0, 0)) := by
  have hn8 : (hnq H).toNatClampNeg ≤ 8 := Nat.le_of_lt_succ (zn_of hk.2.1 (by decide)).2
  obtain ⟨⟨g, s, t, hh, b, w, e, k⟩, ⟨td, li, wa, md, mp⟩⟩ := C0
  have e0 : cD H ((g, s, t, hh, b, w, e, k), (td, li, wa, md, mp)) 0 = ((z_fill 8 0 g, z_fill 8 0 s, z_fill 8 0 t, c_clr H (hnq H).toNatClampNeg 0 hh, z_fill 8 0 b, z_fill 8 (-1) w, z_fill 8 (-1) e, k), (-1, 0, 0, -1, -1)) := rfl
  rw [e0, m_ini_eq]
  have ff : ∀ (v : Int32) (a a' : zr), RN 8 (ini_row (fun _ => v) 8 0 a') (z_fill 8 v a) := fun v a a' j hj => by
    rw [ini_row_at, if_pos (by omega)]
    unfold z_fill
    rw [if_pos hj]
  refine ⟨⟨ff 0 _ _, ff (-1) _ _, ff 0 _ _, ff 0 _ _, ff 0 _ _, fun q hq => ?_, rfl, rfl, vp_in_nI (n := 0) (by decide) (by decide)⟩, fun q hq => ?_⟩
  · rw [ini_row_at, if_pos (show 0 ≤ q ∧ q < 0 + 8 by omega), c_clr_at, if_pos (show 0 ≤ q ∧ q < 0 + (hnq H).toNatClampNeg by omega)]
    have := m_is_eq hk hm hq
    by_cases c : c_vi H q = 0
    · rw [if_pos c, if_pos (this.mpr c)]
      obtain ⟨v1, v2, v3⟩ := c_void_of c
      obtain ⟨f1, f2⟩ := hk.2.2.2 q hq
      obtain ⟨u1, u2, u3⟩ := hm.2.2.2.2.2.1 q hq
      rw [← u1, ← u2, m_pe1 hk hm f1 v1, m_pe1 hk hm f2 v2]
    · rw [if_neg c, if_neg (fun z => c (this.mp z))]
  · have := m_is_eq hk hm hq
    show mpre H 0 _ (ini_row (fun i => @ite _ (m_is h i) (m_isD h i) 0 4) 8 0 R.1 q) q
    rw [ini_row_at, if_pos (by omega)]
    have ee : z_fill 8 (-1) e q = -1 := if_pos (by omega)
    have ew : z_fill 8 (-1) w q = -1 := if_pos (by omega)
    have eb : z_fill 8 0 b q = 0 := if_pos (by omega)
    refine ⟨fun c => if_neg (fun z => c (this.mp z)), fun c c' => absurd ee c', fun c _ => ?_, fun d' _ hd' z => nI_neg (show d' < 2 ^ 31 by omega) (z.symm.trans ew), 0, Nat.le_refl _, eb⟩
    rw [if_pos (this.mpr c)]
    exact ⟨by decide, fun _ => rfl⟩
theorem s_lives {H : zH} {h : zMh} (hk : hok H) (hm : mhl H h) (hc : hcut H) (C0 : zC) (R B : zMr) : mbase (hnq H).toNatClampNeg (cD H C0 24) (m_lives h R B).1 ∧ (∀ q, q < (hnq H).toNatClampNeg → (m_lives h R B).1.1.1 q = c_state H (hbe H) q (cD H C0 24)) ∧ brel H C0 24 (m_lives h R B).2 :=
  s_days hk hm hc C0 24 0 _ B rfl (s_ini hk hm C0 R) (fun z => absurd z (by decide)) (fun d hd => absurd hd (by omega))
