/-! a course does not depend on what was there before; gold kept, mist -/
def mkh (H : zH) : zMh := (fun j => if j % 2 = 0 then hso H (j / 2) else hte H (j / 2), fun j => if j % 3 = 0 then hfi H (j / 3) else if j % 3 = 1 then hwh H (j / 3) else hbe H (j / 3), hcu H, fun j => if j % 2 = 0 then hek H (j / 2) else hed H (j / 2), hnp H, hnq H, hne H, hpr H ^^^ (-1), hmo H)
theorem mkh_ok {H : zH} (hk : hok H) : mhl H (mkh H) := by
  have hne9 := (zn_of hk.2.2.1 (by decide)).2
  refine ⟨rfl, rfl, rfl, rfl, fun i hi => ⟨?_, ?_⟩, fun q hq => ⟨?_, ?_, ?_⟩, fun d hd => rfl, fun e he => ⟨?_, ?_, ?_⟩⟩
  · show hso H i = if (2 * i) % 2 = 0 then hso H (2 * i / 2) else hte H (2 * i / 2)
    rw [if_pos (by omega), show 2 * i / 2 = i by omega]
  · show hte H i = if (2 * i + 1) % 2 = 0 then hso H ((2 * i + 1) / 2) else hte H ((2 * i + 1) / 2)
    rw [if_neg (by omega), show (2 * i + 1) / 2 = i by omega]
  · show hfi H q = if (3 * q) % 3 = 0 then hfi H (3 * q / 3) else if (3 * q) % 3 = 1 then hwh H (3 * q / 3) else hbe H (3 * q / 3)
    rw [if_pos (by omega), show 3 * q / 3 = q by omega]
  · show hwh H q = if (3 * q + 1) % 3 = 0 then hfi H ((3 * q + 1) / 3) else if (3 * q + 1) % 3 = 1 then hwh H ((3 * q + 1) / 3) else hbe H ((3 * q + 1) / 3)
    rw [if_neg (by omega), if_pos (by omega), show (3 * q + 1) / 3 = q by omega]
  · show hbe H q = if (3 * q + 2) % 3 = 0 then hfi H ((3 * q + 2) / 3) else if (3 * q + 2) % 3 = 1 then hwh H ((3 * q + 2) / 3) else hbe H ((3 * q + 2) / 3)
    rw [if_neg (by omega), if_neg (by omega), show (3 * q + 2) / 3 = q by omega]
  · show hek H e = if (2 * e) % 2 = 0 then hek H (2 * e / 2) else hed H (2 * e / 2)
    rw [if_pos (by omega), show 2 * e / 2 = e by omega]
  · show hed H e = if (2 * e + 1) % 2 = 0 then hek H ((2 * e + 1) / 2) else hed H ((2 * e + 1) / 2)
    rw [if_neg (by omega), show (2 * e + 1) / 2 = e by omega]
  · show ((hpr H >>> (nI e &&& 31)) &&& 1 = 1) ↔ ¬ (((hpr H ^^^ (-1)) >>> (nI e &&& 31)) &&& 1 = 1)
    rw [zb_not _ (by omega)]
    exact (Classical.not_not).symm
def r00 : zMr := (fun _ => 0, fun _ => 0, fun _ => 0, fun _ => 0, fun _ => 0, fun _ => 0, fun _ => 0)
/-- what counts of a course -/
def ceq (H : zH) (C D : zC) : Prop := (∀ q, q < (hnq H).toNatClampNeg → c_state H (hbe H) q C = c_state H (hbe H) q D ∧ ch C q = ch D q ∧ cb C q = cb D q) ∧ (∀ p, p < 8 → cg C p = cg D p ∧ cs C p = cs D p ∧ ct C p = ct D p) ∧ cli C = cli D
theorem ind_day {H : zH} (hk : hok H) (hc : hcut H) (C0 : zC) {d : Nat} (hd : d < 24) : ceq H (cD H C0 (d + 1)) (aD H (d + 1)) := by
  have h1 := (s_lives hk (mkh_ok hk) hc C0 r00 r00).2.2 d hd
  have h2 := (s_lives hk (mkh_ok hk) hc c00 r00 r00).2.2 d hd
  exact ⟨fun q hq => ⟨(h1.1 q hq).1.symm.trans (h2.1 q hq).1, (h1.1 q hq).2.1.symm.trans (h2.1 q hq).2.1, (h1.1 q hq).2.2.symm.trans (h2.1 q hq).2.2⟩, fun p hp => ⟨(h1.2.1 p hp).1.symm.trans (h2.2.1 p hp).1, (h1.2.1 p hp).2.1.symm.trans (h2.2.1 p hp).2.1, (h1.2.1 p hp).2.2.symm.trans (h2.2.1 p hp).2.2⟩, h1.2.2.symm.trans h2.2.2⟩
theorem ind_end {H : zH} (hk : hok H) (hc : hcut H) (C0 : zC) : RN 8 (cb (cD H C0 24)) (cb (aD H 24)) ∧ RN 8 (ce (cD H C0 24)) (ce (aD H 24)) ∧ RN 8 (cg (cD H C0 24)) (cg (aD H 24)) ∧ cwa (cD H C0 24) = cwa (aD H 24) := by
  have h1 := mbase_acc.mp (s_lives hk (mkh_ok hk) hc C0 r00 r00).1
  have h2 := mbase_acc.mp (s_lives hk (mkh_ok hk) hc c00 r00 r00).1
  exact ⟨fun j hj => (h1.1 j hj).symm.trans (h2.1 j hj), fun j hj => (h1.2.1 j hj).symm.trans (h2.2.1 j hj), fun j hj => (h1.2.2.1 j hj).symm.trans (h2.2.2.1 j hj), h1.2.2.2.2.2.2.2.1.symm.trans h2.2.2.2.2.2.2.2.1⟩
theorem c_bits_congr {e e' : zr} : ∀ n, (∀ q, q < n → e q = e' q) → c_bits e n = c_bits e' n := by
  intro n
  induction n with
  | zero => exact fun _ => rfl
  | succ n ih =>
    intro h
    simp only [c_bits]
    rw [ih (fun q hq => h q (by omega)), h n (by omega)]
theorem c_open_congr {H : zH} {C D : zC} : ∀ n, (∀ q, q < n → c_state H (hbe H) q C = c_state H (hbe H) q D) → c_open H (hbe H) C n = c_open H (hbe H) D n := by
  intro n
  induction n with
  | zero => exact fun _ => rfl
  | succ n ih =>
    intro h
    simp only [c_open]
    rw [ih (fun q hq => h q (by omega)), h n (by omega)]
theorem ind_bits {H : zH} (hk : hok H) (hc : hcut H) (C0 : zC) : c_bits (ce (cD H C0 24)) (hnq H).toNatClampNeg = a_peace H := by
  have hn := (zn_of hk.2.1 (by decide)).2
  exact c_bits_congr _ (fun q hq => (ind_end hk hc C0).2.1 q (by omega))
/-! gold kept, mist -/
theorem c_keep_ck (d : Nat) : ∀ r p C j, ck (c_keep d r p C) j = if d * 8 + p ≤ j ∧ j < d * 8 + p + r then cg C (j - d * 8) else ck C j := by
  intro r
  induction r with
  | zero =>
    intro p C j
    rw [if_neg (by omega)]
    rfl
  | succ r ih =>
    intro p C j
    simp only [c_keep]
    rw [ih]
    obtain ⟨⟨g, s, t, hh, b, w, e, k⟩, ⟨td, li, wa, md, mp⟩⟩ := C
    show (if _ then g (j - d * 8) else upd k (d * 8 + p) (g p) j) = if _ then g (j - d * 8) else k j
    by_cases c : j = d * 8 + p
    · subst c
      rw [if_neg (by omega), if_pos (by omega), pk_us]
      exact congrArg g (by omega)
    · rw [pk_un c]
      by_cases c2 : d * 8 + (p + 1) ≤ j ∧ j < d * 8 + (p + 1) + r
      · rw [if_pos c2, if_pos (by omega)]
      · rw [if_neg c2, if_neg (by omega)]
theorem c_qs_k {H : zH} {d : Int32} : ∀ r q C, ck (c_qs H d r q C) = ck C ∧ cmd (c_qs H d r q C) = cmd C ∧ cmp (c_qs H d r q C) = cmp C := by
  have one : ∀ q C, ck (c_q H (hso H) (hfi H) (hwh H) (hbe H) d q C) = ck C ∧ cmd (c_q H (hso H) (hfi H) (hwh H) (hbe H) d q C) = cmd C ∧ cmp (c_q H (hso H) (hfi H) (hwh H) (hbe H) d q C) = cmp C := by
    intro q C
    by_cases c : ce C q = -1 ∧ ¬ d < hbe H q ∧ c_vi H q = 0
    · obtain ⟨c1, c2, c3⟩ := c
      rw [c_q_run c1 c2 c3]
      generalize (if cb C q &&& 1 = 0 then hfi H q else hwh H q).toNatClampNeg = a
      generalize (if cb C q &&& 1 = 0 then hwh H q else hfi H q).toNatClampNeg = x
      have h1 : ck (c_mid (hso H) q a x d C) = ck C ∧ cmd (c_mid (hso H) q a x d C) = cmd C ∧ cmp (c_mid (hso H) q a x d C) = cmp C := by
        obtain ⟨⟨g, s, t, hh, b, w, e, k⟩, ⟨td, li, wa, md, mp⟩⟩ := C
        simp only [c_mid]
        split
        · exact ⟨rfl, rfl, rfl⟩
        · split <;> exact ⟨rfl, rfl, rfl⟩
      generalize c_mid (hso H) q a x d C = D at *
      obtain ⟨⟨g, s, t, hh, b, w, e, k⟩, ⟨td, li, wa, md, mp⟩⟩ := D
      exact h1
    · rw [c_q_skip c]
      exact ⟨rfl, rfl, rfl⟩
  intro r
  induction r with
  | zero => exact fun q C => ⟨rfl, rfl, rfl⟩
  | succ r ih =>
    intro q C
    simp only [c_qs]
    obtain ⟨a1, a2, a3⟩ := ih (q + 1) (c_q H (hso H) (hfi H) (hwh H) (hbe H) d q C)
    obtain ⟨b1, b2, b3⟩ := one q C
    exact ⟨a1.trans b1, a2.trans b2, a3.trans b3⟩
theorem c_rain_k {H : zH} {d : Int32} (C : zC) : ck (c_rain H d C) = ck C ∧ cmd (c_rain H d C) = cmd C ∧ cmp (c_rain H d C) = cmp C := by
  obtain ⟨⟨g, s, t, hh, b, w, e, k⟩, ⟨td, li, wa, md, mp⟩⟩ := C
  exact ⟨rfl, rfl, rfl⟩
theorem c_day_k {d : Int32} (C : zC) : ck (c_day d C) = ck C ∧ cmd (c_day d C) = cmd C ∧ cmp (c_day d C) = cmp C ∧ cg (c_day d C) = cg C := by
  obtain ⟨R, ⟨td, li, wa, md, mp⟩⟩ := C
  exact ⟨rfl, rfl, rfl, rfl⟩
theorem cD_ck {H : zH} (hk : hok H) (C0 : zC) : ∀ n, n ≤ 24 → ∀ d p, d < n → p < (hnp H).toNatClampNeg → ck (cD H C0 n) (d * 8 + p) = cg (cD H C0 (d + 1)) p := by
  have hn := (zn_of hk.1 (by decide)).2
  intro n
  induction n with
  | zero => exact fun _ d p hd _ => absurd hd (by omega)
  | succ n ih =>
    intro hn24 d p hd hp
    have e : ck (cD H C0 (n + 1)) (d * 8 + p) = if n * 8 + 0 ≤ d * 8 + p ∧ d * 8 + p < n * 8 + 0 + (hnp H).toNatClampNeg then cg (c_qs H (nI n) (hnq H).toNatClampNeg 0 (c_rain H (nI n) (cD H C0 n))) (d * 8 + p - n * 8) else ck (cD H C0 n) (d * 8 + p) := by
      rw [cD_succ]
      unfold c_pass
      rw [(c_day_k _).1, nI_clamp (by omega), c_keep_ck, (c_qs_k _ _ _).1, (c_rain_k _).1]
    rw [e]
    by_cases c : d = n
    · subst c
      rw [if_pos (by omega), show d * 8 + p - d * 8 = p by omega, cD_succ]
      unfold c_pass
      rw [(c_ends _).1.1]
    · rw [if_neg (by omega)]
      exact ih (by omega) d p (by omega) hp
def fk (g : zr) : Nat → Nat → Option Nat
  | 0, _ => none
  | r + 1, k => if g k = 9 then some k else fk g r (k + 1)
theorem c_keep_on (d : Nat) : ∀ r p C, ¬ cmd C = -1 → cmd (c_keep d r p C) = cmd C ∧ cmp (c_keep d r p C) = cmp C := by
  intro r
  induction r with
  | zero => exact fun p C _ => ⟨rfl, rfl⟩
  | succ r ih =>
    intro p C h
    simp only [c_keep]
    obtain ⟨⟨g, s, t, hh, b, w, e, k⟩, ⟨td, li, wa, md, mp⟩⟩ := C
    have h : ¬ md = -1 := h
    have e1 : c_keep1 d p ((g, s, t, hh, b, w, e, k), (td, li, wa, md, mp)) = ((g, s, t, hh, b, w, e, upd k (d * 8 + p) (g p)), (td, li, wa, md, mp)) := by
      simp only [c_keep1]
      rw [if_neg (fun z => h z.1), if_neg (fun z => h z.1)]
    rw [e1]
    exact ih (p + 1) _ h
theorem c_keep_md (d : Nat) (hd : d < 24) : ∀ r p C, cmd C = -1 → (fk (cg C) r p = none → cmd (c_keep d r p C) = cmd C ∧ cmp (c_keep d r p C) = cmp C) ∧ (∀ j, fk (cg C) r p = some j → cmd (c_keep d r p C) = nI d ∧ cmp (c_keep d r p C) = nI j) := by
  intro r
  induction r with
  | zero => exact fun p C _ => ⟨fun _ => ⟨rfl, rfl⟩, fun j h => by cases h⟩
  | succ r ih =>
    intro p C h
    simp only [c_keep]
    obtain ⟨⟨g, s, t, hh, b, w, e, k⟩, ⟨td, li, wa, md, mp⟩⟩ := C
    have h : md = -1 := h
    by_cases c : g p = 9
    · have e0 : fk g (r + 1) p = some p := if_pos c
      have e1 : c_keep1 d p ((g, s, t, hh, b, w, e, k), (td, li, wa, md, mp)) = ((g, s, t, hh, b, w, e, upd k (d * 8 + p) (g p)), (td, li, wa, nI d, nI p)) := by
        simp only [c_keep1]
        rw [if_pos ⟨h, c⟩, if_pos ⟨h, c⟩]
      rw [e1]
      have K := c_keep_on d r (p + 1) ((g, s, t, hh, b, w, e, upd k (d * 8 + p) (g p)), (td, li, wa, nI d, nI p)) (nI_neg (show d < 2 ^ 31 by omega))
      refine ⟨fun z => ?_, fun j z => ?_⟩
      · have z : fk g (r + 1) p = none := z
        rw [e0] at z
        cases z
      · have z : fk g (r + 1) p = some j := z
        rw [e0] at z
        cases z
        exact K
    · have e0 : fk g (r + 1) p = fk g r (p + 1) := if_neg c
      have e1 : c_keep1 d p ((g, s, t, hh, b, w, e, k), (td, li, wa, md, mp)) = ((g, s, t, hh, b, w, e, upd k (d * 8 + p) (g p)), (td, li, wa, md, mp)) := by
        simp only [c_keep1]
        rw [if_neg (fun z => c z.2), if_neg (fun z => c z.2)]
      rw [e1]
      have K := ih (p + 1) ((g, s, t, hh, b, w, e, upd k (d * 8 + p) (g p)), (td, li, wa, md, mp)) h
      refine ⟨fun z => K.1 ?_, fun j z => K.2 j ?_⟩
      · exact e0.symm.trans z
      · exact e0.symm.trans z
/-- the first day of mist below n, seen forward -/
theorem m_mk_fk (g : zr) (d : Nat) (w : Int32) : ∀ r k, m_mk g d w r k = (fk (fun j => g (8 * d + j)) r k).map (fun j => if w = 0 then nI d else nI j) := by
  intro r
  induction r with
  | zero => exact fun k => rfl
  | succ r ih =>
    intro k
    simp only [m_mk, fk]
    split
    · rfl
    · exact ih (k + 1)
theorem fk_congr {g g' : zr} : ∀ r k, (∀ j, k ≤ j → j < k + r → g j = g' j) → fk g r k = fk g' r k := by
  intro r
  induction r with
  | zero => exact fun _ _ => rfl
  | succ r ih =>
    intro k h
    simp only [fk]
    rw [h k (by omega) (by omega), ih (k + 1) (fun j a b => h j (by omega) (by omega))]
theorem cD_md0 {H : zH} (C0 : zC) : cmd (cD H C0 0) = -1 ∧ cmp (cD H C0 0) = -1 := by
  obtain ⟨⟨g, s, t, hh, b, w, e, k⟩, ⟨td, li, wa, md, mp⟩⟩ := C0
  exact ⟨rfl, rfl⟩
theorem cD_md {H : zH} (C0 : zC) {n : Nat} (hn : n < 24) : (¬ cmd (cD H C0 n) = -1 → cmd (cD H C0 (n + 1)) = cmd (cD H C0 n) ∧ cmp (cD H C0 (n + 1)) = cmp (cD H C0 n)) ∧ (cmd (cD H C0 n) = -1 → (fk (cg (cD H C0 (n + 1))) (hnp H).toNatClampNeg 0 = none → cmd (cD H C0 (n + 1)) = cmd (cD H C0 n) ∧ cmp (cD H C0 (n + 1)) = cmp (cD H C0 n)) ∧ (∀ j, fk (cg (cD H C0 (n + 1))) (hnp H).toNatClampNeg 0 = some j → cmd (cD H C0 (n + 1)) = nI n ∧ cmp (cD H C0 (n + 1)) = nI j)) := by
  rw [cD_succ]
  unfold c_pass
  rw [(c_ends _).1.1, (c_day_k _).2.1, (c_day_k _).2.2.1, nI_clamp (by omega)]
  have e1 : cmd (c_qs H (nI n) (hnq H).toNatClampNeg 0 (c_rain H (nI n) (cD H C0 n))) = cmd (cD H C0 n) := by rw [(c_qs_k _ _ _).2.1, (c_rain_k _).2.1]
  have e2 : cmp (c_qs H (nI n) (hnq H).toNatClampNeg 0 (c_rain H (nI n) (cD H C0 n))) = cmp (cD H C0 n) := by rw [(c_qs_k _ _ _).2.2, (c_rain_k _).2.2]
  generalize c_qs H (nI n) (hnq H).toNatClampNeg 0 (c_rain H (nI n) (cD H C0 n)) = D at *
  rw [← e1, ← e2]
  exact ⟨fun z => c_keep_on n _ 0 D z, fun z => c_keep_md n hn _ 0 D z⟩
theorem mist_eq {H : zH} (hk : hok H) (hc : hcut H) (C0 : zC) (w : Int32) : ∀ r n, n + r = 24 → cmd (cD H C0 n) = -1 → cmp (cD H C0 n) = -1 → m_mi (a_gb H) (hnp H).toNatClampNeg w r n = (if w = 0 then cmd (cD H C0 24) else cmp (cD H C0 24)) := by
  have np8 := (zn_of hk.1 (by decide)).2
  have stay : ∀ r n, n + r = 24 → ¬ cmd (cD H C0 n) = -1 → cmd (cD H C0 24) = cmd (cD H C0 n) ∧ cmp (cD H C0 24) = cmp (cD H C0 n) := by
    intro r
    induction r with
    | zero =>
      intro n hn _
      obtain rfl : n = 24 := by omega
      exact ⟨rfl, rfl⟩
    | succ r ih =>
      intro n hn h
      obtain ⟨a1, a2⟩ := (cD_md C0 (show n < 24 by omega)).1 h
      obtain ⟨b1, b2⟩ := ih (n + 1) (by omega) (by rw [a1]; exact h)
      exact ⟨b1.trans a1, b2.trans a2⟩
  intro r
  induction r with
  | zero =>
    intro n hn h1 h2
    obtain rfl : n = 24 := by omega
    rw [h1, h2]
    simp [m_mi]
  | succ r ih =>
    intro n hn h1 h2
    have L := (cD_md C0 (show n < 24 by omega)).2 h1
    have e : fk (fun j => a_gb H (8 * n + j)) (hnp H).toNatClampNeg 0 = fk (cg (cD H C0 (n + 1))) (hnp H).toNatClampNeg 0 := fk_congr _ _ (fun j _ hj => by
      unfold a_gb
      rw [show (8 * n + j) / 8 = n by omega, show (8 * n + j) % 8 = j by omega]
      exact (((ind_day hk hc C0 (show n < 24 by omega)).2.1 j (by omega)).1).symm)
    simp only [m_mi]
    rw [m_mk_fk, e]
    cases hf : fk (cg (cD H C0 (n + 1))) (hnp H).toNatClampNeg 0 with
    | none =>
      obtain ⟨a1, a2⟩ := L.1 hf
      exact ih (n + 1) (by omega) (a1.trans h1) (a2.trans h2)
    | some j =>
      obtain ⟨a1, a2⟩ := L.2 j hf
      obtain ⟨b1, b2⟩ := stay r (n + 1) (by omega) (by rw [a1]; exact nI_neg (by omega))
      show (if w = 0 then nI n else nI j) = _
      rw [b1, b2, a1, a2]
theorem mist_end {H : zH} (hk : hok H) (hc : hcut H) (C0 : zC) (w : Int32) : a_mist H w = (if w = 0 then cmd (cD H C0 24) else cmp (cD H C0 24)) := mist_eq hk hc C0 w 24 0 rfl (cD_md0 C0).1 (cD_md0 C0).2
