/-! the course of the class and the rows of the reference: one step of both -/
def RN (n : Nat) (f g : zr) : Prop := ∀ i, i < n → f i = g i
theorem RN_upd {n i : Nat} {f g : zr} {v v' : Int32} (h : RN n f g) (e : v = v') : RN n (upd f i v) (upd g i v') := by
  intro j hj
  unfold upd
  split
  · exact e
  · exact h j hj
def mbase (n : Nat) : zC → zMr × zMs → Prop := fun ((g, s, t, h, b, w, e, k), (td, li, wa, md, mp)) ((st', h', b', o', g', s', t'), (k', w')) =>
  RN 8 b' b ∧ RN 8 o' e ∧ RN 8 g' g ∧ RN 8 s' s ∧ RN 8 t' t ∧ RN n h' h ∧ k' = li ∧ w' = wa ∧ vp_in li 21
def c_mid (so : zr) (q a x : Nat) (d : Int32) : zC → zC := fun ((g, s, t, h, b, w, e, k), (td, li, wa, md, mp)) =>
  if so a = 1 then ((g, s, t, upd h q (h q - 1), b, w, e, k), (td, li, wa, md, mp))
  else if li = 0 then c_wait so q a d ((g, s, t, h, b, w, e, k), (td, li, wa, md, mp))
  else c_strike so q a x ((g, s, t, h, b, w, e, k), (td, li, wa, md, mp))
theorem vp_dec {x : Int32} {n : Nat} (h : vp_in x n) (hn : n < 2 ^ 31) (h0 : ¬ x = 0) : vp_in (x - 1) n := by
  obtain ⟨j, hj, rfl⟩ := vp_in_of h hn
  rcases Nat.eq_zero_or_pos j with rfl | hp
  · exact absurd rfl h0
  · obtain ⟨y, rfl⟩ : ∃ y, j = y + 1 := ⟨j - 1, by omega⟩
    rw [nI_pred]
    exact vp_in_nI (by omega) hn
theorem s_mid {n : Nat} {so pe : zr} {q a x : Nat} {d : Int32} (hq : q < n) (hn : n ≤ 8) (ha : a < 8) (hx : x < 8) (e1 : pe (2 * a) = so a) (e2 : pe (2 * x) = so x) {C : zC} {M : zMr × zMs} (h : mbase n C M) : mbase n (c_mid so q a x d C) (m_mid pe q a x M) := by
  obtain ⟨⟨g, s, t, hh, b, w, e, k⟩, ⟨td, li, wa, md, mp⟩⟩ := C
  obtain ⟨⟨st', h', b', o', g', s', t'⟩, ⟨k', w'⟩⟩ := M
  obtain ⟨r1, r2, r3, r4, r5, r6, rfl, rfl, r9⟩ := h
  have q8 : q < 8 := by omega
  simp only [c_mid, m_mid, e1, e2]
  by_cases c1 : so a = 1
  · simp only [c1, if_true]
    exact ⟨r1, r2, r3, r4, r5, RN_upd r6 (by rw [r6 q hq]), rfl, rfl, r9⟩
  · simp only [c1, if_false]
    by_cases c2 : k' = 0
    · simp only [c2, if_true, c_wait]
      refine ⟨r1, r2, r3, r4, r5, ?_, rfl, rfl, by rw [← c2]; exact r9⟩
      by_cases c3 : so a = 2
      · simp only [c3, if_true]
        exact RN_upd r6 (by rw [r6 q hq])
      · simp only [c3, if_false]
        intro j hj
        unfold upd
        split
        · next ej => rw [ej]; exact r6 q hq
        · exact r6 j hj
    · simp only [c2, if_false, c_strike]
      exact ⟨RN_upd r1 (by rw [r1 q q8]), r2, RN_upd r3 (by rw [r3 x hx]), RN_upd r4 (by rw [r4 x hx]), RN_upd r5 (by rw [r5 a ha]), RN_upd r6 (by rw [r6 q hq]), rfl, rfl, vp_dec r9 (by decide) c2⟩
/-- what the middle leaves: state, wait days, ends, blows -/
theorem s_midS {so pe : zr} {q a x : Nat} {d : Int32} (e1 : pe (2 * a) = so a) (C : zC) (M : zMr × zMs) (e2 : M.2.1 = cli C) :
    (m_mid pe q a x M).1.1 q = (if so a = 1 then 1 else if cli C = 0 then 2 else 1) ∧ (∀ j, ¬ j = q → (m_mid pe q a x M).1.1 j = M.1.1 j)
    ∧ cw (c_mid so q a x d C) = (if so a = 1 then cw C else if cli C = 0 then upd (cw C) q d else cw C)
    ∧ ce (c_mid so q a x d C) = ce C
    ∧ (cb (c_mid so q a x d C) = cb C ∨ cb (c_mid so q a x d C) = upd (cb C) q (cb C q + 1)) := by
  obtain ⟨⟨g, s, t, hh, b, w, e, k⟩, ⟨td, li, wa, md, mp⟩⟩ := C
  obtain ⟨⟨st', h', b', o', g', s', t'⟩, ⟨k', w'⟩⟩ := M
  have e2 : k' = li := e2
  subst e2
  by_cases c1 : so a = 1
  · have f1 : c_mid so q a x d ((g, s, t, hh, b, w, e, k), (td, k', wa, md, mp)) = ((g, s, t, upd hh q (hh q - 1), b, w, e, k), (td, k', wa, md, mp)) := by simp only [c_mid]; rw [if_pos c1]
    have f2 : m_mid pe q a x ((st', h', b', o', g', s', t'), (k', w')) = ((upd st' q 1, upd h' q (h' q - 1), b', o', g', s', t'), (k', w')) := by simp only [m_mid]; rw [if_pos (e1.trans c1)]
    rw [f1, f2, if_pos c1, if_pos c1]
    exact ⟨pk_us, fun j hj => pk_un hj, rfl, rfl, Or.inl rfl⟩
  · rw [if_neg c1, if_neg c1]
    by_cases c2 : cli ((g, s, t, hh, b, w, e, k), (td, k', wa, md, mp)) = 0
    · rw [if_pos c2, if_pos c2]
      have c2 : k' = 0 := c2
      simp only [c_mid, m_mid]
      rw [if_neg c1, if_pos c2, if_neg (fun z => c1 (e1 ▸ z)), if_pos c2]
      exact ⟨pk_us, fun j hj => by show upd (upd st' q 1) q 2 j = st' j; rw [pk_un hj, pk_un hj], rfl, rfl, Or.inl rfl⟩
    · rw [if_neg c2, if_neg c2]
      have c2 : ¬ k' = 0 := c2
      simp only [c_mid, m_mid]
      rw [if_neg c1, if_neg c2, if_neg (fun z => c1 (e1 ▸ z)), if_neg c2]
      exact ⟨pk_us, fun j hj => pk_un hj, rfl, rfl, Or.inr rfl⟩
theorem mbase_b {n : Nat} {C : zC} {M : zMr × zMs} (h : mbase n C M) : RN 8 M.1.2.2.1 (cb C) ∧ M.2.1 = cli C := by
  obtain ⟨⟨g, s, t, hh, b, w, e, k⟩, ⟨td, li, wa, md, mp⟩⟩ := C
  obtain ⟨⟨st', h', b', o', g', s', t'⟩, ⟨k', w'⟩⟩ := M
  exact ⟨h.1, h.2.2.2.2.2.2.1⟩
theorem s_set {n : Nat} {fi wh : zr} {q a x : Nat} {d : Int32} (hq : q < n) (hn : n ≤ 8) (ha : a < 8) (hx : x < 8) (he : (a = (fi q).toNatClampNeg ∧ x = (wh q).toNatClampNeg) ∨ (a = (wh q).toNatClampNeg ∧ x = (fi q).toNatClampNeg)) {C : zC} {M : zMr × zMs} (h : mbase n C M) : mbase n (c_settle fi wh q d C) (m_set d q a x M.1, M.2)
    ∧ ((ce (c_settle fi wh q d C) = upd (ce C) q d ∧ (m_set d q a x M.1).1 = upd M.1.1 q 3) ∨ (ce (c_settle fi wh q d C) = ce C ∧ (m_set d q a x M.1).1 = M.1.1))
    ∧ cw (c_settle fi wh q d C) = cw C ∧ cb (c_settle fi wh q d C) = cb C ∧ ctd (c_settle fi wh q d C) = ctd C := by
  obtain ⟨⟨g, s, t, hh, b, w, e, k⟩, ⟨td, li, wa, md, mp⟩⟩ := C
  obtain ⟨⟨st', h', b', o', g', s', t'⟩, ⟨k', w'⟩⟩ := M
  obtain ⟨r1, r2, r3, r4, r5, r6, rfl, rfl, r9⟩ := h
  have hc : (zmx 0 (h' q) = 0 ∨ g' a = 9 ∨ g' x = 9) ↔ ((g (fi q).toNatClampNeg = 9 ∨ g (wh q).toNatClampNeg = 9) ∨ zmx 0 (hh q) = 0) := by
    rw [r6 q hq, r3 a ha, r3 x hx]
    rcases he with ⟨rfl, rfl⟩ | ⟨rfl, rfl⟩
    · grind
    · grind
  by_cases c : zmx 0 (h' q) = 0 ∨ g' a = 9 ∨ g' x = 9
  · have f1 : c_settle fi wh q d ((g, s, t, hh, b, w, e, k), (td, k', w', md, mp)) = ((g, s, t, upd hh q (zmx 0 (hh q)), b, w, upd e q d, k), (td, k', w', md, mp)) := by simp only [c_settle]; rw [if_pos (hc.mp c)]
    have f2 : m_set d q a x (st', h', b', o', g', s', t') = (upd st' q 3, upd h' q (zmx 0 (h' q)), b', upd o' q d, g', s', t') := by simp only [m_set]; rw [if_pos c]
    rw [f1, f2]
    exact ⟨⟨r1, RN_upd r2 rfl, r3, r4, r5, RN_upd r6 (by rw [r6 q hq]), rfl, rfl, r9⟩, Or.inl ⟨rfl, rfl⟩, rfl, rfl, rfl⟩
  · have f1 : c_settle fi wh q d ((g, s, t, hh, b, w, e, k), (td, k', w', md, mp)) = ((g, s, t, upd hh q (zmx 0 (hh q)), b, w, e, k), (td, k', w', md, mp)) := by simp only [c_settle]; rw [if_neg (fun z => c (hc.mpr z))]
    have f2 : m_set d q a x (st', h', b', o', g', s', t') = (st', upd h' q (zmx 0 (h' q)), b', o', g', s', t') := by simp only [m_set]; rw [if_neg c]
    rw [f1, f2]
    exact ⟨⟨r1, r2, r3, r4, r5, RN_upd r6 (by rw [r6 q hq]), rfl, rfl, r9⟩, Or.inr ⟨rfl, rfl⟩, rfl, rfl, rfl⟩
theorem s_par {x : Int32} {m : Nat} (h : x = nI m) (hm : m < 2 ^ 20) : (x - x / 2 * 2 = 0) = (x &&& 1 = 0) := by
  subst h
  rw [show (2 : Int32) = nI 2 from rfl, pk_rem (by omega) (by decide) (by decide), pk_andN (m := 1) (by omega) 1 (by decide)]
/-- the two hills tell the same -/
def mhl (H : zH) (h : zMh) : Prop := hnp H = xnp h ∧ hnq H = xnq h ∧ hne H = xne h ∧ hmo H = xod h
  ∧ (∀ i, i < (hnp H).toNatClampNeg → hso H i = xpe h (2 * i) ∧ hte H i = xpe h (2 * i + 1))
  ∧ (∀ q, q < (hnq H).toNatClampNeg → hfi H q = xqu h (3 * q) ∧ hwh H q = xqu h (3 * q + 1) ∧ hbe H q = xqu h (3 * q + 2))
  ∧ (∀ d, d < 24 → hcu H d = xgl h d)
  ∧ (∀ e, e < (hne H).toNatClampNeg → hek H e = xev h (2 * e) ∧ hed H e = xev h (2 * e + 1) ∧ ((hpr H >>> (nI e &&& 31)) &&& 1 = 1 ↔ ¬ (xgo h >>> (nI e &&& 31)) &&& 1 = 1))
def hcut (H : zH) : Prop := ∀ d, d < 24 → vp_in (hcu H d) 10
theorem mok_of {H : zH} {h : zMh} (hk : hok H) (hm : mhl H h) : mok h := by
  obtain ⟨a1, a2, a3, a4⟩ := hk
  obtain ⟨b1, b2, b3, b4, b5, b6, b7, b8⟩ := hm
  refine ⟨b1 ▸ a1, b2 ▸ a2, b3 ▸ a3, fun q hq => ?_⟩
  rw [← b2] at hq
  obtain ⟨c1, c2, c3⟩ := b6 q hq
  rw [← c1, ← c2]
  exact a4 q hq
noncomputable def c_stq (H : zH) (td : Int32) (C : zC) (q : Nat) : Int32 := if ¬ c_vi H q = 0 then 4 else if ¬ ce C q = -1 then 3 else if td < hbe H q then 0 else if cw C q = td then 2 else 1
def mpre (H : zH) (d : Nat) (C : zC) (x : Int32) (q : Nat) : Prop := (¬ c_vi H q = 0 → x = 4) ∧ (c_vi H q = 0 → ¬ ce C q = -1 → x = 3) ∧ (c_vi H q = 0 → ce C q = -1 → ¬ 3 ≤ x ∧ (nI d < hbe H q → x = 0)) ∧ (∀ d', d ≤ d' → d' < 24 → ¬ cw C q = nI d') ∧ ∃ n, n ≤ d ∧ cb C q = nI n
def mpost (H : zH) (d : Nat) (C : zC) (x : Int32) (q : Nat) : Prop := x = c_stq H (nI d) C q ∧ (∀ d', d < d' → d' < 24 → ¬ cw C q = nI d') ∧ ∃ n, n ≤ d + 1 ∧ cb C q = nI n
def mrel (H : zH) (d j : Nat) (C : zC) (M : zMr × zMs) : Prop := mbase (hnq H).toNatClampNeg C M ∧ (∀ q, q < (hnq H).toNatClampNeg → q < j → mpost H d C (M.1.1 q) q) ∧ (∀ q, q < (hnq H).toNatClampNeg → j ≤ q → mpre H d C (M.1.1 q) q)
theorem s_skip {H : zH} {d q : Nat} {C : zC} {x : Int32} (hd : d < 24) (h : mpre H d C x q) (hs : 3 ≤ x ∨ nI d < hbe H q) : mpost H d C x q := by
  obtain ⟨h1, h2, h3, h4, n, hn, h5⟩ := h
  refine ⟨?_, fun d' a b => h4 d' (by omega) b, n, by omega, h5⟩
  unfold c_stq
  by_cases c1 : c_vi H q = 0
  · rw [if_neg (fun z => z c1)]
    by_cases c2 : ce C q = -1
    · rw [if_neg (fun z => z c2)]
      obtain ⟨a1, a2⟩ := h3 c1 c2
      have a3 := hs.resolve_left a1
      rw [if_pos a3]
      exact a2 a3
    · rw [if_pos c2]
      exact h2 c1 c2
  · rw [if_pos c1]
    exact h1 c1
theorem c_void_of {H : zH} {q : Nat} (h : c_vi H q = 0) : hfi H q < hnp H ∧ hwh H q < hnp H ∧ ¬ hfi H q = hwh H q := by
  rw [c_vi0] at h
  unfold c_void at h
  exact ⟨Int32.not_le.mp (fun z => h (Or.inl z)), Int32.not_le.mp (fun z => h (Or.inr (Or.inl z))), fun z => h (Or.inr (Or.inr z))⟩
theorem c_q_run {H : zH} {d : Int32} {q : Nat} {C : zC} (h1 : ce C q = -1) (h2 : ¬ d < hbe H q) (h3 : c_vi H q = 0) : c_q H (hso H) (hfi H) (hwh H) (hbe H) d q C = c_settle (hfi H) (hwh H) q d (c_mid (hso H) q (if cb C q &&& 1 = 0 then hfi H q else hwh H q).toNatClampNeg (if cb C q &&& 1 = 0 then hwh H q else hfi H q).toNatClampNeg d C) := by
  obtain ⟨⟨g, s, t, hh, b, w, e, k⟩, ⟨td, li, wa, md, mp⟩⟩ := C
  have h1 : e q = -1 := h1
  simp only [c_q, c_mid]
  rw [if_pos ⟨h1, h2, h3⟩]
  rfl
theorem c_q_skip {H : zH} {d : Int32} {q : Nat} {C : zC} (h : ¬ (ce C q = -1 ∧ ¬ d < hbe H q ∧ c_vi H q = 0)) : c_q H (hso H) (hfi H) (hwh H) (hbe H) d q C = C := by
  obtain ⟨⟨g, s, t, hh, b, w, e, k⟩, ⟨td, li, wa, md, mp⟩⟩ := C
  have h : ¬ (e q = -1 ∧ ¬ d < hbe H q ∧ c_vi H q = 0) := h
  simp only [c_q]
  rw [if_neg h]
theorem mpre_eq {H : zH} {d q : Nat} {C C' : zC} {x x' : Int32} (h : mpre H d C x q) (e1 : ce C' q = ce C q) (e2 : cw C' q = cw C q) (e3 : cb C' q = cb C q) (e4 : x' = x) : mpre H d C' x' q := by
  unfold mpre
  rw [e1, e2, e3, e4]
  exact h
theorem mpost_eq {H : zH} {d q : Nat} {C C' : zC} {x x' : Int32} (h : mpost H d C x q) (e1 : ce C' q = ce C q) (e2 : cw C' q = cw C q) (e3 : cb C' q = cb C q) (e4 : x' = x) : mpost H d C' x' q := by
  unfold mpost c_stq at *
  rw [e1, e2, e3, e4]
  exact h
theorem nI_neg {n : Nat} (h : n < 2 ^ 31) : ¬ nI n = -1 := by
  intro q
  have := nI_pos h
  rw [q] at this
  exact this (by decide)
set_option maxHeartbeats 4000000 in
theorem s_step {H : zH} {h : zMh} (hk : hok H) (hm : mhl H h) {d q : Nat} (hd : d < 24) (hq : q < (hnq H).toNatClampNeg) {C : zC} {M : zMr × zMs} (hr : mrel H d q C M) : mrel H d (q + 1) (c_q H (hso H) (hfi H) (hwh H) (hbe H) (nI d) q C) (m_q h d q M) := by
  obtain ⟨k1, k2, k3, k4⟩ := hk
  obtain ⟨b1, b2, b3, b4, b5, b6, b7, b8⟩ := hm
  obtain ⟨r1, r2, r3⟩ := hr
  obtain ⟨u1, u2, u3⟩ := b6 q hq
  have hn8 : (hnq H).toNatClampNeg ≤ 8 := Nat.le_of_lt_succ (zn_of k2 (by decide)).2
  have hp := r3 q hq (Nat.le_refl _)
  have hp' := hp
  obtain ⟨p1, p2, p3, p4, n, hn, p5⟩ := hp'
  by_cases c : ce C q = -1 ∧ ¬ nI d < hbe H q ∧ c_vi H q = 0
  · obtain ⟨c1, c2, c3⟩ := c
    obtain ⟨p6, p7⟩ := p3 c3 c1
    obtain ⟨v1, v2, v3⟩ := c_void_of c3
    obtain ⟨f1, f2⟩ := k4 q hq
    obtain ⟨f3, f4⟩ := zn_of f1 (by decide)
    obtain ⟨f5, f6⟩ := zn_of f2 (by decide)
    obtain ⟨g1, g2⟩ := zn_of k1 (by decide)
    have fi_np : (hfi H q).toNatClampNeg < (hnp H).toNatClampNeg := by
      rw [f3, g1, nI_ltI (by omega) (by omega)] at v1
      exact v1
    have wh_np : (hwh H q).toNatClampNeg < (hnp H).toNatClampNeg := by
      rw [f5, g1, nI_ltI (by omega) (by omega)] at v2
      exact v2
    rw [c_q_run c1 c2 c3]
    have em : m_q h d q M = m_does (xpe h) (xqu h) (nI d) q M := by
      unfold m_q
      rw [if_neg (fun z => z.elim p6 (by rw [← u3]; exact c2))]
    rw [em]
    obtain ⟨q1, q7⟩ := mbase_b r1
    have par : (M.1.2.2.1 q - M.1.2.2.1 q / 2 * 2 = 0) = (cb C q &&& 1 = 0) := by
      rw [q1 q (by omega)]
      exact s_par p5 (by omega)
    -- the one who strikes, the one who is struck
    obtain ⟨a, x, ea, ex, ea', ex', ha, hx, hax, pa, px⟩ : ∃ a x : Nat, a = (if cb C q &&& 1 = 0 then hfi H q else hwh H q).toNatClampNeg ∧ x = (if cb C q &&& 1 = 0 then hwh H q else hfi H q).toNatClampNeg ∧ m_who (xqu h) M.1.2.2.1 q = a ∧ m_whom (xqu h) M.1.2.2.1 q = x ∧ a < 8 ∧ x < 8 ∧ ((a = (hfi H q).toNatClampNeg ∧ x = (hwh H q).toNatClampNeg) ∨ (a = (hwh H q).toNatClampNeg ∧ x = (hfi H q).toNatClampNeg)) ∧ xpe h (2 * a) = hso H a ∧ xpe h (2 * x) = hso H x := by
      by_cases cp : cb C q &&& 1 = 0
      · refine ⟨_, _, rfl, rfl, ?_, ?_, ?_, ?_, ?_, ?_, ?_⟩
        · unfold m_who
          rw [if_pos (par ▸ cp), if_pos cp, u1]
        · unfold m_whom
          rw [if_pos (par ▸ cp), if_pos cp, u2]
        · rw [if_pos cp]; exact f4
        · rw [if_pos cp]; exact f6
        · rw [if_pos cp, if_pos cp]; exact Or.inl ⟨rfl, rfl⟩
        · rw [if_pos cp]; exact (b5 _ fi_np).1.symm
        · rw [if_pos cp]; exact (b5 _ wh_np).1.symm
      · refine ⟨_, _, rfl, rfl, ?_, ?_, ?_, ?_, ?_, ?_, ?_⟩
        · unfold m_who
          rw [if_neg (fun z => cp (par ▸ z)), if_neg cp, u2]
        · unfold m_whom
          rw [if_neg (fun z => cp (par ▸ z)), if_neg cp, u1]
        · rw [if_neg cp]; exact f6
        · rw [if_neg cp]; exact f4
        · rw [if_neg cp, if_neg cp]; exact Or.inr ⟨rfl, rfl⟩
        · rw [if_neg cp]; exact (b5 _ wh_np).1.symm
        · rw [if_neg cp]; exact (b5 _ fi_np).1.symm
    rw [← ea, ← ex]
    unfold m_does
    rw [ea', ex']
    have B1 := s_mid (so := hso H) (pe := xpe h) (d := nI d) hq hn8 ha hx pa px r1
    obtain ⟨S1, S2, S3, S4, S5⟩ := s_midS (so := hso H) (pe := xpe h) (q := q) (a := a) (x := x) (d := nI d) pa C M q7
    generalize c_mid (hso H) q a x (nI d) C = C1 at *
    generalize m_mid (xpe h) q a x M = M1 at *
    obtain ⟨B2, T1, T2, T3, T4⟩ := s_set (fi := hfi H) (wh := hwh H) (d := nI d) hq hn8 ha hx hax B1
    refine ⟨B2, fun j hj hjq => ?_, fun j hj hjq => ?_⟩
    · by_cases ej : j = q
      · subst ej
        refine ⟨?_, fun d' a1 a2 => ?_, ?_⟩
        · unfold c_stq
          rw [if_neg (fun z => z c3), T2, S3]
          rcases T1 with ⟨t1, t2⟩ | ⟨t1, t2⟩
          · rw [t1, t2, pk_us, pk_us, if_pos (nI_neg (by omega))]
          · rw [t1, t2, S4, S1, if_neg (show ¬ ¬ ce C j = -1 from fun z => z c1), if_neg c2]
            by_cases d1 : hso H a = 1
            · rw [if_pos d1, if_pos d1, if_neg (p4 d (Nat.le_refl _) hd)]
            · rw [if_neg d1, if_neg d1]
              by_cases d2 : cli C = 0
              · rw [if_pos d2, if_pos d2, pk_us, if_pos rfl]
              · rw [if_neg d2, if_neg d2, if_neg (p4 d (Nat.le_refl _) hd)]
        · rw [T2, S3]
          split
          · exact p4 d' (by omega) a2
          · split
            · rw [pk_us]
              exact fun z => absurd ((nI_eq (by omega) (by omega)).mp z) (by omega)
            · exact p4 d' (by omega) a2
        · rw [T3]
          rcases S5 with s5 | s5
          · exact ⟨n, by omega, by rw [s5]; exact p5⟩
          · exact ⟨n + 1, by omega, by rw [s5, pk_us, p5, nI_1]⟩
      · refine mpost_eq (r2 j hj (by omega)) ?_ ?_ ?_ ?_
        · rcases T1 with ⟨t1, t2⟩ | ⟨t1, t2⟩
          · rw [t1, S4, pk_un ej]
          · rw [t1, S4]
        · rw [T2, S3]
          split
          · rfl
          · split
            · rw [pk_un ej]
            · rfl
        · rw [T3]
          rcases S5 with s5 | s5
          · rw [s5]
          · rw [s5, pk_un ej]
        · rcases T1 with ⟨t1, t2⟩ | ⟨t1, t2⟩
          · rw [t2, pk_un ej]; exact S2 j ej
          · rw [t2]; exact S2 j ej
    · have ej : ¬ j = q := by omega
      refine mpre_eq (r3 j hj (by omega)) ?_ ?_ ?_ ?_
      · rcases T1 with ⟨t1, t2⟩ | ⟨t1, t2⟩
        · rw [t1, S4, pk_un ej]
        · rw [t1, S4]
      · rw [T2, S3]
        split
        · rfl
        · split
          · rw [pk_un ej]
          · rfl
      · rw [T3]
        rcases S5 with s5 | s5
        · rw [s5]
        · rw [s5, pk_un ej]
      · rcases T1 with ⟨t1, t2⟩ | ⟨t1, t2⟩
        · rw [t2, pk_un ej]; exact S2 j ej
        · rw [t2]; exact S2 j ej
  · rw [c_q_skip c]
    have hs : 3 ≤ M.1.1 q ∨ nI d < hbe H q := by
      by_cases c3 : c_vi H q = 0
      · by_cases c1 : ce C q = -1
        · exact Or.inr (Classical.byContradiction (fun z => c ⟨c1, z, c3⟩))
        · rw [p2 c3 c1]
          exact Or.inl (by decide)
      · rw [p1 c3]
        exact Or.inl (by decide)
    have em : m_q h d q M = M := by
      unfold m_q
      rw [if_pos (by rw [← u3]; exact hs)]
    rw [em]
    refine ⟨r1, fun j hj hjq => ?_, fun j hj hjq => r3 j hj (by omega)⟩
    by_cases ej : j = q
    · subst ej
      exact s_skip hd hp hs
    · exact r2 j hj (by omega)
