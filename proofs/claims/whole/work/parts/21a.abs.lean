/-! answers as functions of the hill; hills with one thing changed -/
def c00 : zC := ((fun _ => 0, fun _ => 0, fun _ => 0, fun _ => 0, fun _ => 0, fun _ => 0, fun _ => 0, fun _ => 0), (0, 0, 0, 0, 0))
noncomputable def aD (H : zH) (n : Nat) : zC := cD H c00 n
def hturn (q : Nat) : zH → zH := fun (so, te, fi, wh, be, cu, ek, ed, np, nq, mo, ne, pr) => (so, te, upd fi q (wh q), upd wh q (fi q), be, cu, ek, ed, np, nq, mo, ne, pr)
def hbeg (q : Nat) (v : Int32) : zH → zH := fun (so, te, fi, wh, be, cu, ek, ed, np, nq, mo, ne, pr) => (so, te, fi, wh, upd be q v, cu, ek, ed, np, nq, mo, ne, pr)
def hmon (v : Int32) : zH → zH := fun (so, te, fi, wh, be, cu, ek, ed, np, nq, mo, ne, pr) => (so, te, fi, wh, be, cu, ek, ed, np, nq, v, ne, pr)
def hpre (v : Int32) : zH → zH := fun (so, te, fi, wh, be, cu, ek, ed, np, nq, mo, ne, pr) => (so, te, fi, wh, be, cu, ek, ed, np, nq, mo, ne, v)
def hsor (p : Nat) (v : Int32) : zH → zH := fun (so, te, fi, wh, be, cu, ek, ed, np, nq, mo, ne, pr) => (upd so p v, te, fi, wh, be, cu, ek, ed, np, nq, mo, ne, pr)
def htem (p : Nat) (v : Int32) : zH → zH := fun (so, te, fi, wh, be, cu, ek, ed, np, nq, mo, ne, pr) => (so, upd te p v, fi, wh, be, cu, ek, ed, np, nq, mo, ne, pr)
def hcw (r : zr) : zH → zH := fun (so, te, fi, wh, be, cu, ek, ed, np, nq, mo, ne, pr) => (so, te, fi, wh, be, r, ek, ed, np, nq, mo, ne, pr)
theorem hok_turn2 {H : zH} {q : Nat} (h : hok H) (hq : q < (hnq H).toNatClampNeg) : hok (hturn q H) := by
  obtain ⟨so, te, fi, wh, be, cu, ek, ed, np, nq, mo, ne, pr⟩ := H
  obtain ⟨a1, a2, a3, a4⟩ := h
  refine ⟨a1, a2, a3, fun j hj => ?_⟩
  obtain ⟨b1, b2⟩ := a4 j hj
  obtain ⟨c1, c2⟩ := a4 q hq
  show vp_in (upd fi q (wh q) j) 8 ∧ vp_in (upd wh q (fi q) j) 8
  by_cases e : j = q
  · subst e
    rw [pk_us, pk_us]
    exact ⟨b2, b1⟩
  · rw [pk_un e, pk_un e]
    exact ⟨b1, b2⟩
theorem hok_beg {H : zH} {q : Nat} {v : Int32} (h : hok H) : hok (hbeg q v H) := by obtain ⟨so, te, fi, wh, be, cu, ek, ed, np, nq, mo, ne, pr⟩ := H; exact h
theorem hok_mon {H : zH} {v : Int32} (h : hok H) : hok (hmon v H) := by obtain ⟨so, te, fi, wh, be, cu, ek, ed, np, nq, mo, ne, pr⟩ := H; exact h
theorem hok_pre {H : zH} {v : Int32} (h : hok H) : hok (hpre v H) := by obtain ⟨so, te, fi, wh, be, cu, ek, ed, np, nq, mo, ne, pr⟩ := H; exact h
theorem hok_sor {H : zH} {q : Nat} {v : Int32} (h : hok H) : hok (hsor q v H) := by obtain ⟨so, te, fi, wh, be, cu, ek, ed, np, nq, mo, ne, pr⟩ := H; exact h
theorem hok_tem {H : zH} {q : Nat} {v : Int32} (h : hok H) : hok (htem q v H) := by obtain ⟨so, te, fi, wh, be, cu, ek, ed, np, nq, mo, ne, pr⟩ := H; exact h
theorem hok_cw {H : zH} {r : zr} (h : hok H) : hok (hcw r H) := by obtain ⟨so, te, fi, wh, be, cu, ek, ed, np, nq, mo, ne, pr⟩ := H; exact h
theorem hcut_turn {H : zH} {q : Nat} (h : hcut H) : hcut (hturn q H) := by obtain ⟨so, te, fi, wh, be, cu, ek, ed, np, nq, mo, ne, pr⟩ := H; exact h
theorem hcut_beg {H : zH} {q : Nat} {v : Int32} (h : hcut H) : hcut (hbeg q v H) := by obtain ⟨so, te, fi, wh, be, cu, ek, ed, np, nq, mo, ne, pr⟩ := H; exact h
theorem hcut_mon {H : zH} {v : Int32} (h : hcut H) : hcut (hmon v H) := by obtain ⟨so, te, fi, wh, be, cu, ek, ed, np, nq, mo, ne, pr⟩ := H; exact h
theorem hcut_pre {H : zH} {v : Int32} (h : hcut H) : hcut (hpre v H) := by obtain ⟨so, te, fi, wh, be, cu, ek, ed, np, nq, mo, ne, pr⟩ := H; exact h
theorem hcut_sor {H : zH} {q : Nat} {v : Int32} (h : hcut H) : hcut (hsor q v H) := by obtain ⟨so, te, fi, wh, be, cu, ek, ed, np, nq, mo, ne, pr⟩ := H; exact h
theorem hcut_tem {H : zH} {q : Nat} {v : Int32} (h : hcut H) : hcut (htem q v H) := by obtain ⟨so, te, fi, wh, be, cu, ek, ed, np, nq, mo, ne, pr⟩ := H; exact h
theorem hcut_cw {H : zH} {r : zr} (h : ∀ d, d < 24 → vp_in (r d) 10) : hcut (hcw r H) := by obtain ⟨so, te, fi, wh, be, cu, ek, ed, np, nq, mo, ne, pr⟩ := H; exact h
theorem nq_turn (H : zH) (q : Nat) : hnq (hturn q H) = hnq H := by obtain ⟨so, te, fi, wh, be, cu, ek, ed, np, nq, mo, ne, pr⟩ := H; rfl
theorem nq_beg (H : zH) (q : Nat) (v : Int32) : hnq (hbeg q v H) = hnq H := by obtain ⟨so, te, fi, wh, be, cu, ek, ed, np, nq, mo, ne, pr⟩ := H; rfl
theorem nq_mon (H : zH) (v : Int32) : hnq (hmon v H) = hnq H := by obtain ⟨so, te, fi, wh, be, cu, ek, ed, np, nq, mo, ne, pr⟩ := H; rfl
theorem nq_pre (H : zH) (v : Int32) : hnq (hpre v H) = hnq H := by obtain ⟨so, te, fi, wh, be, cu, ek, ed, np, nq, mo, ne, pr⟩ := H; rfl
theorem nq_sor (H : zH) (p : Nat) (v : Int32) : hnq (hsor p v H) = hnq H := by obtain ⟨so, te, fi, wh, be, cu, ek, ed, np, nq, mo, ne, pr⟩ := H; rfl
theorem nq_tem (H : zH) (p : Nat) (v : Int32) : hnq (htem p v H) = hnq H := by obtain ⟨so, te, fi, wh, be, cu, ek, ed, np, nq, mo, ne, pr⟩ := H; rfl
theorem nq_cw (H : zH) (r : zr) : hnq (hcw r H) = hnq H := by obtain ⟨so, te, fi, wh, be, cu, ek, ed, np, nq, mo, ne, pr⟩ := H; rfl
theorem np_turn (H : zH) (q : Nat) : hnp (hturn q H) = hnp H := by obtain ⟨so, te, fi, wh, be, cu, ek, ed, np, nq, mo, ne, pr⟩ := H; rfl
theorem np_pre (H : zH) (v : Int32) : hnp (hpre v H) = hnp H := by obtain ⟨so, te, fi, wh, be, cu, ek, ed, np, nq, mo, ne, pr⟩ := H; rfl
theorem np_sor (H : zH) (p : Nat) (v : Int32) : hnp (hsor p v H) = hnp H := by obtain ⟨so, te, fi, wh, be, cu, ek, ed, np, nq, mo, ne, pr⟩ := H; rfl
theorem np_tem (H : zH) (p : Nat) (v : Int32) : hnp (htem p v H) = hnp H := by obtain ⟨so, te, fi, wh, be, cu, ek, ed, np, nq, mo, ne, pr⟩ := H; rfl
theorem np_cw (H : zH) (r : zr) : hnp (hcw r H) = hnp H := by obtain ⟨so, te, fi, wh, be, cu, ek, ed, np, nq, mo, ne, pr⟩ := H; rfl
theorem mh_turn {H : zH} {I F : zI} {q : Nat} (h : mhl H (ml I F)) (hq : q < (hnq H).toNatClampNeg) : mhl (hturn q H) (ml (m_chg q I) F) := by
  obtain ⟨so, te, fi, wh, be, cu, ek, ed, np, nq, mo, ne, pr⟩ := H
  obtain ⟨b1, b2, b3, b4, b5, b6, b7, b8⟩ := h
  refine ⟨b1, b2, b3, b4, b5, fun j hj => ?_, b7, b8⟩
  obtain ⟨u1, u2, u3⟩ := b6 j hj
  obtain ⟨w1, w2, w3⟩ := b6 q hq
  show upd fi q (wh q) j = m_chg q I 58 (3 * j) ∧ upd wh q (fi q) j = m_chg q I 58 (3 * j + 1) ∧ be j = m_chg q I 58 (3 * j + 2)
  unfold m_chg
  rw [zu_eq, zu_eq]
  have w1 : fi q = I 58 (3 * q) := w1
  have w2 : wh q = I 58 (3 * q + 1) := w2
  have u1 : fi j = I 58 (3 * j) := u1
  have u2 : wh j = I 58 (3 * j + 1) := u2
  have u3 : be j = I 58 (3 * j + 2) := u3
  by_cases e : j = q
  · subst e
    rw [pk_us, pk_us, pk_us, pk_un (by omega), pk_us, pk_un (by omega), pk_un (by omega)]
    exact ⟨w2, w1, u3⟩
  · rw [pk_un e, pk_un e, pk_un (by omega), pk_un (by omega), pk_un (by omega), pk_un (by omega), pk_un (by omega), pk_un (by omega)]
    exact ⟨u1, u2, u3⟩
theorem m_chg2 (q : Nat) (I : zI) : m_chg q (m_chg q I) = I := by
  funext j i
  unfold m_chg zu2 va_up upd
  by_cases e : j = 58
  · subst e
    simp only [if_true]
    grind
  · simp only [e, if_false]
theorem mh_beg {H : zH} {I F : zI} {q : Nat} {v : Int32} (h : mhl H (ml I F)) : mhl (hbeg q v H) (ml (zu2 I 58 (3 * q + 2) v) F) := by
  obtain ⟨so, te, fi, wh, be, cu, ek, ed, np, nq, mo, ne, pr⟩ := H
  obtain ⟨b1, b2, b3, b4, b5, b6, b7, b8⟩ := h
  refine ⟨b1, b2, b3, b4, b5, fun j hj => ?_, b7, b8⟩
  obtain ⟨u1, u2, u3⟩ := b6 j hj
  show fi j = zu2 I 58 (3 * q + 2) v 58 (3 * j) ∧ wh j = zu2 I 58 (3 * q + 2) v 58 (3 * j + 1) ∧ upd be q v j = zu2 I 58 (3 * q + 2) v 58 (3 * j + 2)
  rw [zu_eq, pk_un (by omega), pk_un (by omega)]
  refine ⟨u1, u2, ?_⟩
  by_cases e : j = q
  · subst e
    rw [pk_us, pk_us]
  · rw [pk_un e, pk_un (by omega)]
    exact u3
theorem mh_mon {H : zH} {I F : zI} {v : Int32} (h : mhl H (ml I F)) : mhl (hmon v H) (ml I (zu2 F 50 16 v)) := by
  obtain ⟨so, te, fi, wh, be, cu, ek, ed, np, nq, mo, ne, pr⟩ := H
  obtain ⟨b1, b2, b3, b4, b5, b6, b7, b8⟩ := h
  exact ⟨b1, b2, b3, rfl, b5, b6, b7, b8⟩
theorem mh_pre {H : zH} {I F : zI} {v g : Int32} (h : mhl H (ml I F)) (hb : ∀ e, e < (hne H).toNatClampNeg → ((v >>> (nI e &&& 31)) &&& 1 = 1 ↔ ¬ (g >>> (nI e &&& 31)) &&& 1 = 1)) : mhl (hpre v H) (ml I (zu2 F 50 15 g)) := by
  obtain ⟨so, te, fi, wh, be, cu, ek, ed, np, nq, mo, ne, pr⟩ := H
  obtain ⟨b1, b2, b3, b4, b5, b6, b7, b8⟩ := h
  exact ⟨b1, b2, b3, b4, b5, b6, b7, fun e he => ⟨(b8 e he).1, (b8 e he).2.1, hb e he⟩⟩
theorem mh_sor {H : zH} {I F : zI} {p : Nat} {v : Int32} (h : mhl H (ml I F)) : mhl (hsor p v H) (ml (zu2 I 57 (2 * p) v) F) := by
  obtain ⟨so, te, fi, wh, be, cu, ek, ed, np, nq, mo, ne, pr⟩ := H
  obtain ⟨b1, b2, b3, b4, b5, b6, b7, b8⟩ := h
  refine ⟨b1, b2, b3, b4, fun i hi => ?_, b6, b7, b8⟩
  obtain ⟨u1, u2⟩ := b5 i hi
  show upd so p v i = zu2 I 57 (2 * p) v 57 (2 * i) ∧ te i = zu2 I 57 (2 * p) v 57 (2 * i + 1)
  rw [zu_eq, pk_un (k := 2 * p) (j := 2 * i + 1) (by omega)]
  refine ⟨?_, u2⟩
  by_cases e : i = p
  · subst e
    rw [pk_us, pk_us]
  · rw [pk_un e, pk_un (by omega)]
    exact u1
theorem mh_tem {H : zH} {I F : zI} {p : Nat} {v : Int32} (h : mhl H (ml I F)) : mhl (htem p v H) (ml (zu2 I 57 (2 * p + 1) v) F) := by
  obtain ⟨so, te, fi, wh, be, cu, ek, ed, np, nq, mo, ne, pr⟩ := H
  obtain ⟨b1, b2, b3, b4, b5, b6, b7, b8⟩ := h
  refine ⟨b1, b2, b3, b4, fun i hi => ?_, b6, b7, b8⟩
  obtain ⟨u1, u2⟩ := b5 i hi
  show so i = zu2 I 57 (2 * p + 1) v 57 (2 * i) ∧ upd te p v i = zu2 I 57 (2 * p + 1) v 57 (2 * i + 1)
  rw [zu_eq, pk_un (k := 2 * p + 1) (j := 2 * i) (by omega)]
  refine ⟨u1, ?_⟩
  by_cases e : i = p
  · subst e
    rw [pk_us, pk_us]
  · rw [pk_un e, pk_un (by omega)]
    exact u2
theorem mh_cw {H : zH} {I I' F : zI} {r : zr} (h : mhl H (ml I F)) (e57 : I' 57 = I 57) (e58 : I' 58 = I 58) (e60 : I' 60 = I 60) (hr : ∀ d, d < 24 → r d = I' 59 d) : mhl (hcw r H) (ml I' F) := by
  obtain ⟨so, te, fi, wh, be, cu, ek, ed, np, nq, mo, ne, pr⟩ := H
  obtain ⟨b1, b2, b3, b4, b5, b6, b7, b8⟩ := h
  unfold mhl
  rw [ml_pe, ml_qu, ml_ev, ml_gl, e57, e58, e60]
  exact ⟨b1, b2, b3, b4, b5, b6, hr, b8⟩
/-! void quarrels never end -/
theorem c_q_ce {H : zH} {d : Int32} {q j : Nat} (C : zC) (h : ¬ c_vi H j = 0) : ce (c_q H (hso H) (hfi H) (hwh H) (hbe H) d q C) j = ce C j := by
  by_cases c : ce C q = -1 ∧ ¬ d < hbe H q ∧ c_vi H q = 0
  · obtain ⟨c1, c2, c3⟩ := c
    have e : ¬ j = q := fun z => h (z ▸ c3)
    rw [c_q_run c1 c2 c3]
    generalize (if cb C q &&& 1 = 0 then hfi H q else hwh H q).toNatClampNeg = a
    generalize (if cb C q &&& 1 = 0 then hwh H q else hfi H q).toNatClampNeg = x
    have h1 : ce (c_mid (hso H) q a x d C) = ce C := by
      obtain ⟨⟨g, s, t, hh, b, w, e, k⟩, ⟨td, li, wa, md, mp⟩⟩ := C
      simp only [c_mid]
      split
      · rfl
      · split <;> rfl
    generalize c_mid (hso H) q a x d C = D at *
    rw [← h1]
    obtain ⟨⟨g, s, t, hh, b, w, e, k⟩, ⟨td, li, wa, md, mp⟩⟩ := D
    show (if _ then upd e q d else e) j = e j
    split
    · rw [pk_un (by assumption)]
    · rfl
  · rw [c_q_skip c]
theorem c_qs_ce {H : zH} {d : Int32} {j : Nat} (h : ¬ c_vi H j = 0) : ∀ r q C, ce (c_qs H d r q C) j = ce C j := by
  intro r
  induction r with
  | zero => exact fun q C => rfl
  | succ r ih =>
    intro q C
    simp only [c_qs]
    rw [ih, c_q_ce C h]
theorem cD_void {H : zH} {C0 : zC} {j : Nat} (hj : j < 8) (h : ¬ c_vi H j = 0) : ∀ n, ce (cD H C0 n) j = -1 := by
  intro n
  induction n with
  | zero =>
    obtain ⟨⟨g, s, t, hh, b, w, e, k⟩, ⟨td, li, wa, md, mp⟩⟩ := C0
    exact if_pos hj
  | succ n ih =>
    rw [cD_succ]
    unfold c_pass
    rw [(c_ends _).1.2.2.2.2.2.2.1, c_qs_ce h]
    generalize cD H C0 n = C at *
    obtain ⟨⟨g, s, t, hh, b, w, e, k⟩, ⟨td, li, wa, md, mp⟩⟩ := C
    exact ih
theorem c_state3 {H : zH} {C0 : zC} {q n : Nat} (hq : q < 8) : c_state H (hbe H) q (cD H C0 n) = 3 ↔ ¬ ce (cD H C0 n) q = -1 := by
  rw [c_state_eq]
  unfold c_stq
  by_cases c1 : c_vi H q = 0
  · rw [if_neg (fun z => z c1)]
    by_cases c2 : ce (cD H C0 n) q = -1
    · rw [if_neg (fun z => z c2)]
      refine ⟨fun z => ?_, fun z => absurd c2 z⟩
      split at z
      · exact absurd z (by decide)
      · split at z
        · exact absurd z (by decide)
        · exact absurd z (by decide)
    · rw [if_pos c2]
      exact ⟨fun _ => c2, fun _ => rfl⟩
  · rw [if_pos c1]
    exact ⟨fun z => absurd z (by decide), fun z => absurd (cD_void hq c1 n) z⟩
noncomputable def a_peace (H : zH) : Int32 := c_bits (ce (aD H 24)) (hnq H).toNatClampNeg
theorem or0 (x : Int32) : x ||| 0 = x := Int32.or_zero
theorem m_bits_eq {H : zH} {C0 : zC} {st : zr} : ∀ n, n ≤ 8 → (∀ q, q < n → st q = c_state H (hbe H) q (cD H C0 24)) → m_bits st n = c_bits (ce (cD H C0 24)) n := by
  intro n
  induction n with
  | zero => exact fun _ _ => rfl
  | succ n ih =>
    intro hn h
    simp only [m_bits, c_bits]
    rw [ih (by omega) (fun q hq => h q (by omega)), h n (by omega)]
    have := c_state3 (H := H) (C0 := C0) (q := n) (n := 24) (by omega)
    by_cases c : ce (cD H C0 24) n = -1
    · rw [if_pos c, if_neg (fun z => this.mp z c), or0]
    · rw [if_neg c, if_pos (this.mpr c)]
/-! what can be read behind lives -/
theorem md_M {H : zH} {I F : zI} (h : mdy H I F) (C0 : zC) : (∀ q, q < 8 → I 63 q = cb (cD H C0 24) q) ∧ (∀ q, q < 8 → I 64 q = ce (cD H C0 24) q) ∧ (∀ p, p < 8 → I 65 p = cg (cD H C0 24) p) ∧ F 50 24 = cli (cD H C0 24) ∧ F 50 25 = cwa (cD H C0 24) := by
  have := (h C0).1
  rw [mbase_acc] at this
  exact ⟨this.1, this.2.1, this.2.2.1, this.2.2.2.2.2.2.1, this.2.2.2.2.2.2.2.1⟩
theorem md_peace {H : zH} {I F : zI} (hk : hok H) (h : mdy H I F) : m_bits (I 61) (hnq H).toNatClampNeg = a_peace H := m_bits_eq _ (Nat.le_of_lt_succ (zn_of hk.2.1 (by decide)).2) (h c00).2.1
/-! bits below 256 -/
def m_endb : Nat → Int32 → Bool
  | 0, x => x == 0
  | r + 1, x => x == 0 || m_endb r (x &&& (x - 1))
theorem m_endb_of : ∀ r x, m_endb r x = true → m_end r x := by
  intro r
  induction r with
  | zero => exact fun x h => show x = 0 by simpa [m_endb] using h
  | succ r ih =>
    intro x h
    unfold m_endb at h
    rw [Bool.or_eq_true] at h
    rcases h with h | h
    · exact Or.inl (by simpa using h)
    · exact Or.inr (ih _ h)
theorem ones_all : ∀ b : Fin 256, m_endb 8 (nI b.val) = true ∧ m_ones 8 0 (nI b.val) = x_bc (nI b.val) := by decide +kernel
theorem or_all : ∀ b : Fin 256, ∀ q : Fin 8, nI b.val ||| ((1 : Int32) <<< (nI q.val &&& 31)) = nI (b.val ||| 2 ^ q.val) := by decide +kernel
theorem c_bits_in (e : zr) : ∀ n, n ≤ 8 → ∃ b, b < 2 ^ n ∧ c_bits e n = nI b := by
  intro n
  induction n with
  | zero => exact fun _ => ⟨0, by decide, rfl⟩
  | succ n ih =>
    intro hn
    obtain ⟨b, hb, he⟩ := ih (by omega)
    simp only [c_bits]
    have h2 : 2 ^ n ≤ 2 ^ 7 := Nat.pow_le_pow_right (by decide) (by omega)
    have h3 : (2 : Nat) ^ (n + 1) = 2 * 2 ^ n := by rw [Nat.pow_succ]; omega
    by_cases c : e n = -1
    · rw [if_pos c]
      exact ⟨b, by omega, he⟩
    · rw [if_neg c, he]
      have := or_all ⟨b, by omega⟩ ⟨n, by omega⟩
      exact ⟨b ||| 2 ^ n, Nat.or_lt_two_pow (by omega) (by omega), this⟩
theorem ones_peace {H : zH} (hk : hok H) : m_end 8 (a_peace H) ∧ m_ones 8 0 (a_peace H) = x_bc (a_peace H) := by
  have hn := (zn_of hk.2.1 (by decide)).2
  obtain ⟨b, hb, he⟩ := c_bits_in (ce (aD H 24)) (hnq H).toNatClampNeg (by omega)
  have h2 : 2 ^ (hnq H).toNatClampNeg ≤ 2 ^ 8 := Nat.pow_le_pow_right (by decide) (by omega)
  unfold a_peace
  rw [he]
  have := ones_all ⟨b, by omega⟩
  exact ⟨m_endb_of _ _ this.1, this.2⟩
