/-! the class: spare, chance -/
theorem zb_or (x y : Int32) {e : Nat} (he : e < 32) : (((x ||| y) >>> (nI e &&& 31)) &&& 1 = 1) ↔ ((x >>> (nI e &&& 31)) &&& 1 = 1) ∨ ((y >>> (nI e &&& 31)) &&& 1 = 1) := by
  rw [zbit _ he, zbit _ he, zbit _ he, Int32.toBitVec_or, BitVec.getLsbD_or, Bool.or_eq_true]
theorem zb_one : ∀ q e : Fin 8, ((((1 : Int32) <<< (nI q.val &&& 31)) >>> (nI e.val &&& 31)) &&& 1 = 1) ↔ q = e := by decide +kernel
theorem zb_zero : ∀ e : Fin 8, ¬ (((0 : Int32) >>> (nI e.val &&& 31)) &&& 1 = 1) := by decide +kernel
theorem bits_bit (e : zr) : ∀ n, n ≤ 8 → ∀ j, j < 8 → (((c_bits e n >>> (nI j &&& 31)) &&& 1 = 1) ↔ j < n ∧ ¬ e j = -1) := by
  intro n
  induction n with
  | zero => exact fun _ j hj => ⟨fun z => absurd z (zb_zero ⟨j, hj⟩), fun z => absurd z.1 (by omega)⟩
  | succ n ih =>
    intro hn j hj
    simp only [c_bits]
    have h1 := ih (by omega) j hj
    by_cases c : e n = -1
    · rw [if_pos c, h1]
      refine ⟨fun z => ⟨by omega, z.2⟩, fun z => ⟨?_, z.2⟩⟩
      have : ¬ j = n := fun y => z.2 (y ▸ c)
      omega
    · rw [if_neg c, zb_or _ _ (by omega), h1, zb_one ⟨n, by omega⟩ ⟨j, hj⟩]
      constructor
      · rintro (z | z)
        · exact ⟨by omega, z.2⟩
        · have z : n = j := congrArg Fin.val z
          subst z
          exact ⟨by omega, c⟩
      · intro z
        by_cases y : j = n
        · subst y
          exact Or.inr rfl
        · exact Or.inl ⟨by omega, z.2⟩
theorem earn_bit (H : zH) : ∀ n, n ≤ 8 → ∀ j, j < 8 → (((c_earn H n >>> (nI j &&& 31)) &&& 1 = 1) ↔ j < n ∧ c_vi H j = 0) := by
  intro n
  induction n with
  | zero => exact fun _ j hj => ⟨fun z => absurd z (zb_zero ⟨j, hj⟩), fun z => absurd z.1 (by omega)⟩
  | succ n ih =>
    intro hn j hj
    simp only [c_earn]
    have h1 := ih (by omega) j hj
    by_cases c : c_vi H n = 0
    · rw [if_pos c, zb_or _ _ (by omega), h1, zb_one ⟨n, by omega⟩ ⟨j, hj⟩]
      constructor
      · rintro (z | z)
        · exact ⟨by omega, z.2⟩
        · have z : n = j := congrArg Fin.val z
          subst z
          exact ⟨by omega, c⟩
      · intro z
        by_cases y : j = n
        · subst y
          exact Or.inr rfl
        · exact Or.inl ⟨by omega, z.2⟩
    · rw [if_neg c, h1]
      refine ⟨fun z => ⟨by omega, z.2⟩, fun z => ⟨?_, z.2⟩⟩
      have : ¬ j = n := fun y => c (y ▸ z.2)
      omega
theorem bits_earn (H : zH) (e : zr) : ∀ n, (∀ q, q < n → (¬ e q = -1 ↔ c_vi H q = 0)) → c_bits e n = c_earn H n := by
  intro n
  induction n with
  | zero => exact fun _ => rfl
  | succ n ih =>
    intro h
    simp only [c_bits, c_earn]
    rw [ih (fun q hq => h q (by omega))]
    by_cases c : e n = -1
    · rw [if_pos c, if_neg (fun z => (h n (by omega)).mpr z c)]
    · rw [if_neg c, if_pos ((h n (by omega)).mp c)]
theorem m_sp1 {st : zr} : ∀ n, (∀ q, q < n → ¬ st q < 3) → m_sp st n = 1 := by
  intro n
  induction n with
  | zero => exact fun _ => rfl
  | succ n ih =>
    intro h
    simp only [m_sp]
    rw [ih (fun q hq => h q (by omega)), if_neg (by decide), if_neg (h n (by omega))]
theorem m_sp0 {st : zr} {j : Nat} (hj : st j < 3) : ∀ n, j < n → m_sp st n = 0 := by
  intro n
  induction n with
  | zero => exact fun h => absurd h (by omega)
  | succ n ih =>
    intro h
    simp only [m_sp]
    by_cases c : j = n
    · subst c
      rw [if_pos hj]
      split <;> rfl
    · rw [ih (by omega), if_pos rfl]
theorem c_state_lt {H : zH} {C0 : zC} {q n : Nat} : c_state H (hbe H) q (cD H C0 n) < 3 ↔ c_vi H q = 0 ∧ ce (cD H C0 n) q = -1 := by
  rw [c_state_eq]
  unfold c_stq
  by_cases c1 : c_vi H q = 0
  · rw [if_neg (fun z => z c1)]
    by_cases c2 : ce (cD H C0 n) q = -1
    · rw [if_neg (fun z => z c2)]
      refine ⟨fun _ => ⟨c1, c2⟩, fun _ => ?_⟩
      split
      · decide
      · split <;> decide
    · rw [if_pos c2]
      exact ⟨fun z => absurd z (by decide), fun z => absurd z.2 c2⟩
  · rw [if_pos c1]
    exact ⟨fun z => absurd z (by decide), fun z => absurd z.1 c1⟩
theorem sp_iff {H : zH} (hk : hok H) : a_sp H = 0 ↔ ¬ a_peace H = c_earn H (hnq H).toNatClampNeg := by
  have hn := (zn_of hk.2.1 (by decide)).2
  by_cases c : ∀ q, q < (hnq H).toNatClampNeg → ¬ c_state H (hbe H) q (aD H 24) < 3
  · have e1 : a_sp H = 1 := m_sp1 _ c
    rw [e1]
    refine ⟨fun z => absurd z (by decide), fun z => absurd (bits_earn H _ _ (fun q hq => ?_)) z⟩
    have := c q hq
    constructor
    · intro y
      exact Classical.byContradiction (fun x => y (cD_void (C0 := c00) (by omega) x 24))
    · intro y x
      exact this (c_state_lt.mpr ⟨y, x⟩)
  · obtain ⟨q, hq⟩ := Classical.not_forall.mp c
    have h1 : q < (hnq H).toNatClampNeg := Classical.byContradiction (fun z => hq (fun y => absurd y z))
    have h2 : c_state H (hbe H) q (aD H 24) < 3 := Classical.byContradiction (fun z => hq (fun _ => z))
    have e1 : a_sp H = 0 := m_sp0 (st := fun q => c_state H (hbe H) q (aD H 24)) h2 _ h1
    refine ⟨fun _ z => ?_, fun _ => e1⟩
    obtain ⟨y1, y2⟩ := c_state_lt.mp h2
    have b1 := (earn_bit H _ (by omega) q (by omega)).mpr ⟨h1, y1⟩
    unfold a_peace at z
    rw [← z] at b1
    exact ((bits_bit _ _ (by omega) q (by omega)).mp b1).2 y2
theorem earn_pre (H : zH) (v : Int32) : ∀ n, c_earn (hpre v H) n = c_earn H n := by
  intro n
  induction n with
  | zero => rfl
  | succ n ih =>
    simp only [c_earn]
    rw [ih]
    have : c_vi (hpre v H) n = c_vi H n := by
      obtain ⟨so, te, fi, wh, be, cu, ek, ed, np, nq, mo, ne, pr⟩ := H
      rfl
    rw [this]
theorem al_255 : ∀ n : Fin 9, (((1 : Int32) <<< (nI n.val &&& 31)) - 1) &&& 255 = ((1 : Int32) <<< (nI n.val &&& 31)) - 1 := by decide +kernel
theorem hg_255 {H : zH} (hk : hok H) (g : Int32) : hpre ((hal H &&& (g ^^^ (-1))) &&& 255) H = hg H g := by
  obtain ⟨n1, n2⟩ := zn_of hk.2.2.1 (by decide)
  have h1 := al_255 ⟨(hne H).toNatClampNeg, n2⟩
  simp only [← n1] at h1
  have h1 : hal H &&& 255 = hal H := h1
  unfold hg
  rw [Int32.and_assoc, Int32.and_comm (g ^^^ (-1)) 255, ← Int32.and_assoc, h1]
theorem x_and_m1 (x : Int32) : x &&& ((0 : Int32) ^^^ (-1)) = x := by
  rw [show (0 : Int32) ^^^ (-1) = -1 from rfl]
  exact Int32.and_neg_one
/-- peace without the events of g, against the earnest quarrels -/
theorem pwg {I F I1 F1 : zI} (h : XJ I F) (hS : XS I F I1 F1) (g : Int32) : ((x_peaceWith (x_al F &&& (g ^^^ (-1))) I1 F1).1 = x_sw I F ↔ ¬ a_sp (hg (hl I F) g) = 0) ∧ XS I F (x_peaceWith (x_al F &&& (g ^^^ (-1))) I1 F1).2.1 (x_peaceWith (x_al F &&& (g ^^^ (-1))) I1 F1).2.2 := by
  have h1 := XS_J h hS
  obtain ⟨e1, e2⟩ := pw_eq h1 (x_al F &&& (g ^^^ (-1)))
  refine ⟨?_, XS_trans hS e2⟩
  rw [e1, XS_hl hS]
  have e3 : hpre ((x_al F &&& (g ^^^ (-1))) &&& 255) (hl I F) = hg (hl I F) g := hg_255 h.1 g
  have e4 : x_sw I F = c_earn (hg (hl I F) g) (hnq (hg (hl I F) g)).toNatClampNeg := by
    unfold hg
    rw [earn_pre, nq_pre]
    rfl
  rw [e3, e4, sp_iff (H := hg (hl I F) g) (hok_pre h.1), Classical.not_not]
theorem s1_eq {I F : zI} (h : XJ I F) : ∀ r e I1 F1, XS I F I1 F1 → (x_s1 (x_al F) (x_sw I F) r e I1 F1).1 = (a_sp1 (hl I F) r e).map zb1 ∧ XS I F (x_s1 (x_al F) (x_sw I F) r e I1 F1).2.1 (x_s1 (x_al F) (x_sw I F) r e I1 F1).2.2 := by
  intro r
  induction r with
  | zero => exact fun e I1 F1 hS => ⟨rfl, hS⟩
  | succ r ih =>
    intro e I1 F1 hS
    obtain ⟨p1, p2⟩ := pwg h hS (zb1 e)
    rw [x_s1, a_sp1]
    by_cases c : a_sp (hg (hl I F) (zb1 e)) = 0
    · rw [if_pos c, if_neg (fun z => p1.mp z c)]
      exact ih (e + 1) _ _ p2
    · rw [if_neg c, if_pos (p1.mpr c)]
      exact ⟨rfl, p2⟩
theorem s3_eq {I F : zI} (h : XJ I F) (e : Nat) : ∀ r l I1 F1, XS I F I1 F1 → (x_s3 (x_al F) (x_sw I F) e r l I1 F1).1 = (a_sp3 (hl I F) e r l).map (fun b => zb1 e ||| zb1 b) ∧ XS I F (x_s3 (x_al F) (x_sw I F) e r l I1 F1).2.1 (x_s3 (x_al F) (x_sw I F) e r l I1 F1).2.2 := by
  intro r
  induction r with
  | zero => exact fun l I1 F1 hS => ⟨rfl, hS⟩
  | succ r ih =>
    intro l I1 F1 hS
    obtain ⟨p1, p2⟩ := pwg h hS (zb1 e ||| zb1 l)
    rw [x_s3, a_sp3]
    by_cases c : a_sp (hg (hl I F) (zb1 e ||| zb1 l)) = 0
    · rw [if_pos c, if_neg (fun z => p1.mp z c)]
      exact ih (l + 1) _ _ p2
    · rw [if_neg c, if_pos (p1.mpr c)]
      exact ⟨rfl, p2⟩
theorem s2_eq {I F : zI} (h : XJ I F) (N : Nat) : ∀ r e I1 F1, XS I F I1 F1 → (x_s2 (x_al F) (x_sw I F) N r e I1 F1).1 = (a_sp2 (hl I F) N r e).map (fun x => zb1 x.1 ||| zb1 x.2) ∧ XS I F (x_s2 (x_al F) (x_sw I F) N r e I1 F1).2.1 (x_s2 (x_al F) (x_sw I F) N r e I1 F1).2.2 := by
  intro r
  induction r with
  | zero => exact fun e I1 F1 hS => ⟨rfl, hS⟩
  | succ r ih =>
    intro e I1 F1 hS
    obtain ⟨q1, q2⟩ := s3_eq h e (N - (e + 1)) (e + 1) I1 F1 hS
    rw [x_s2, a_sp2, q1]
    cases hf : a_sp3 (hl I F) e (N - (e + 1)) (e + 1) with
    | none =>
      rw [if_pos (show Option.map (fun b => zb1 e ||| zb1 b) none = none from rfl)]
      exact ih (e + 1) _ _ q2
    | some b =>
      rw [if_neg (fun z => by cases z)]
      rw [hf] at q1
      exact ⟨q1, q2⟩
theorem sp1_lt {H : zH} : ∀ r e j, a_sp1 H r e = some j → j < e + r := by
  intro r
  induction r with
  | zero => exact fun e j h => by cases h
  | succ r ih =>
    intro e j h
    rw [a_sp1] at h
    split at h
    · have := ih (e + 1) j h
      omega
    · cases h
      omega
theorem sp3_lt {H : zH} {a : Nat} : ∀ r e j, a_sp3 H a r e = some j → e ≤ j ∧ j < e + r := by
  intro r
  induction r with
  | zero => exact fun e j h => by cases h
  | succ r ih =>
    intro e j h
    rw [a_sp3] at h
    split at h
    · have := ih (e + 1) j h
      omega
    · cases h
      omega
theorem sp2_lt {H : zH} {n : Nat} : ∀ r e x, e + r = n → a_sp2 H n r e = some x → x.1 < x.2 ∧ x.2 < n := by
  intro r
  induction r with
  | zero => exact fun e x _ h => by cases h
  | succ r ih =>
    intro e x he h
    rw [a_sp2] at h
    split at h
    · next b hb =>
      cases h
      have := sp3_lt _ _ _ hb
      show e < b ∧ b < n
      omega
    · exact ih (e + 1) x (by omega) h
theorem one_all : ∀ e : Fin 8, ¬ zb1 e.val = -1 ∧ x_bc (zb1 e.val) = 1 ∧ x_lowb (zb1 e.val) 8 0 = nI e.val ∧ x_lowb (zb1 e.val &&& (zb1 e.val - 1)) 8 0 = -1 := by decide +kernel
theorem two_all : ∀ x y : Fin 8, x.val < y.val → ¬ (zb1 x.val ||| zb1 y.val) = -1 ∧ x_bc (zb1 x.val ||| zb1 y.val) = 2 ∧ x_lowb (zb1 x.val ||| zb1 y.val) 8 0 = nI x.val ∧ x_lowb ((zb1 x.val ||| zb1 y.val) &&& ((zb1 x.val ||| zb1 y.val) - 1)) 8 0 = nI y.val := by decide +kernel
theorem zero_sp : ¬ (0 : Int32) = -1 ∧ x_bc 0 = 0 ∧ x_lowb 0 8 0 = -1 ∧ x_lowb (0 &&& ((0 : Int32) - 1)) 8 0 = -1 := by decide +kernel
theorem spared_eq {I F : zI} (h : XJ I F) : (x_spared I F).1 = (if a_sp (hg (hl I F) 0) = 0 then (match a_sp1 (hl I F) (hne (hl I F)).toNatClampNeg 0 with
    | some a => zb1 a
    | none => match a_sp2 (hl I F) (hne (hl I F)).toNatClampNeg (hne (hl I F)).toNatClampNeg 0 with
      | some x => zb1 x.1 ||| zb1 x.2
      | none => -1) else 0) ∧ XS I F (x_spared I F).2.1 (x_spared I F).2.2 := by
  obtain ⟨p1, p2⟩ := pwg h (XS_refl h) 0
  rw [x_and_m1] at p1 p2
  unfold x_spared
  by_cases c : a_sp (hg (hl I F) 0) = 0
  · rw [if_neg (fun z => p1.mp z c), if_pos c]
    unfold x_sp1
    obtain ⟨q1, q2⟩ := s1_eq h (F 8 9).toNatClampNeg 0 _ _ p2
    have e9 : (hne (hl I F)).toNatClampNeg = (F 8 9).toNatClampNeg := rfl
    rw [q1, e9]
    cases hf : a_sp1 (hl I F) (F 8 9).toNatClampNeg 0 with
    | some a =>
      rw [if_neg (fun z => by cases z)]
      exact ⟨rfl, q2⟩
    | none =>
      rw [if_pos (show Option.map zb1 none = none from rfl)]
      obtain ⟨r1, r2⟩ := s2_eq h (F 8 9).toNatClampNeg (F 8 9).toNatClampNeg 0 _ _ q2
      refine ⟨?_, r2⟩
      show (x_s2 _ _ _ _ _ _ _).1.getD (-1) = _
      rw [r1]
      cases a_sp2 (hl I F) (F 8 9).toNatClampNeg (F 8 9).toNatClampNeg 0 with
      | some x => rfl
      | none => rfl
  · rw [if_pos (p1.mpr c), if_neg c]
    exact ⟨rfl, p2⟩
theorem sp_rng (i : Int32) : (i = -1 ∨ (0 ≤ i ∧ i < 2)) ↔ (-1 ≤ i ∧ i < 2) := by grind
theorem p_spare (E : zE) (k : Nat) {I F : zI} (h : XJ I F) (i : Int32) : zVR E (k + 7) 523 [.ref 0, .int i] I F (fun v I' F' => v = some (.int (A_spare (hl I F) i)) ∧ XS I F I' F') := by
  refine zVR_in 5 cX5_spare 3 (some .int) zm_523 (by rw [zi_523]; rfl) (by rw [zi_523]) (Nat.le_of_ble_eq_true rfl) ?_
  intro Post hp
  show zG E 5 cX5_spare 3 (some .int) false 0 0 (k + 6) 0 0 Post 0 [some (.ref 0), some (.int i), none] [] zSH 77 _ _ 0 0
  refine g_spare (k := k) i h.1 (hp _ _ _ ?_)
  unfold x_spare A_spare
  have n8 := (zn_of h.1.2.2.1 (by decide)).2
  by_cases c : -1 ≤ i ∧ i < 2
  · rw [if_pos ((sp_rng i).mpr c), if_pos c]
    obtain ⟨e1, e2⟩ := spared_eq h
    refine ⟨?_, e2⟩
    rw [e1]
    unfold a_spare
    by_cases c0 : a_sp (hg (hl I F) 0) = 0
    · rw [if_pos c0, if_pos c0]
      cases hf : a_sp1 (hl I F) (hne (hl I F)).toNatClampNeg 0 with
      | some a =>
        have := sp1_lt _ _ _ hf
        obtain ⟨o1, o2, o3, o4⟩ := one_all ⟨a, by omega⟩
        simp only at o1 o2 o3 o4
        simp only [o1, o2, o3, o4, if_false]
      | none =>
        cases hg2 : a_sp2 (hl I F) (hne (hl I F)).toNatClampNeg (hne (hl I F)).toNatClampNeg 0 with
        | some x =>
          obtain ⟨x1, x2⟩ := sp2_lt _ _ _ (Nat.zero_add _) hg2
          obtain ⟨o1, o2, o3, o4⟩ := two_all ⟨x.1, by omega⟩ ⟨x.2, by omega⟩ x1
          simp only at o1 o2 o3 o4
          simp only [o1, o2, o3, o4, if_false]
        | none => simp only [if_true]
    · rw [if_neg c0, if_neg c0]
      obtain ⟨o1, o2, o3, o4⟩ := zero_sp
      simp only [o1, o2, o3, o4, if_false]
      by_cases ci : i = -1
      · rw [if_pos ci, if_pos ci]
      · rw [if_neg ci, if_neg ci]
        split <;> rfl
  · rw [if_neg (fun z => c ((sp_rng i).mp z)), if_neg c]
    exact ⟨rfl, XS_refl h⟩
/-! chance -/
def sumN (f : Nat → Nat) : Nat → Nat
  | 0 => 0
  | n + 1 => sumN f n + f n
theorem sumN_shift (f : Nat → Nat) : ∀ n, sumN f (n + 1) = f 0 + sumN (fun i => f (i + 1)) n := by
  intro n
  induction n with
  | zero => simp [sumN]
  | succ n ih =>
    rw [sumN, ih]
    simp only [sumN]
    omega
theorem sumN_congr {f g : Nat → Nat} : ∀ n, (∀ i, i < n → f i = g i) → sumN f n = sumN g n := by
  intro n
  induction n with
  | zero => exact fun _ => rfl
  | succ n ih =>
    intro h
    simp only [sumN]
    rw [ih (fun i hi => h i (by omega)), h n (by omega)]
theorem sumN_rev : ∀ n (f : Nat → Nat), sumN (fun i => f (n - 1 - i)) n = sumN f n := by
  intro n
  induction n with
  | zero => exact fun f => rfl
  | succ n ih =>
    intro f
    rw [sumN_shift]
    have e : sumN (fun i => f (n + 1 - 1 - (i + 1))) n = sumN f n := by
      rw [← ih f]
      exact sumN_congr n (fun i hi => congrArg f (by omega))
    rw [e, sumN]
    show f (n + 1 - 1 - 0) + sumN f n = sumN f n + f n
    rw [show n + 1 - 1 - 0 = n by omega]
    omega
theorem a_chN_sum (H : zH) (c q n : Nat) : ∀ r s a, a_chN H c q n r s a = a + sumN (fun i => wtN c (s + i) (a_chS H q (s + i)) n) r := by
  intro r
  induction r with
  | zero => exact fun s a => rfl
  | succ r ih =>
    intro s a
    rw [a_chN, ih, sumN_shift]
    have : sumN (fun i => wtN c (s + 1 + i) (a_chS H q (s + 1 + i)) n) r = sumN (fun i => wtN c (s + (i + 1)) (a_chS H q (s + (i + 1))) n) r := sumN_congr r (fun i _ => by rw [show s + 1 + i = s + (i + 1) by omega])
    rw [this]
    show a + wtN c s (a_chS H q s) n + _ = a + (wtN c (s + 0) (a_chS H q (s + 0)) n + _)
    rw [Nat.add_zero]
    omega
/-- the weight of the events that are -/
def wpN (c m : Nat) : Nat → Nat
  | 0 => 1
  | i + 1 => wpN c m i * (if (nI m >>> (nI i &&& 31)) &&& 1 = 1 then c else 16 - c)
theorem x_wt_eq {c0 : Nat} (hc : c0 ≤ 16) (m : Nat) : ∀ n, x_wt (nI m) (nI c0) n = lN (wpN c0 m n) := by
  intro n
  induction n with
  | zero => rfl
  | succ n ih =>
    simp only [x_wt, wpN]
    rw [ih]
    split
    · rw [nI_l (by omega), lN_mul]
    · rw [show (16 : Int32) = nI 16 from rfl, pk_sub hc, nI_l (by omega), lN_mul]
theorem cp_bits : ∀ n : Fin 9, ∀ m : Fin 256, ∀ i : Fin 8, m.val < 2 ^ n.val → i.val < n.val → (((nI (2 ^ n.val - 1 - m.val) >>> (nI i.val &&& 31)) &&& 1 = 1) ↔ ¬ ((nI m.val >>> (nI i.val &&& 31)) &&& 1 = 1)) := by decide +kernel
theorem cp_hg : ∀ n : Fin 9, ∀ s : Fin 256, s.val < 2 ^ n.val → (((1 : Int32) <<< (nI n.val &&& 31)) - 1) &&& (nI s.val ^^^ (-1)) = nI (2 ^ n.val - 1 - s.val) := by decide +kernel
theorem wt_wp {N c m w0 : Nat} (h8 : N ≤ 8) (hm : m < 2 ^ N) : ∀ n, n ≤ N → wtN c (2 ^ N - 1 - m) w0 n = w0 * wpN c m n := by
  have p8 : 2 ^ N ≤ 2 ^ 8 := Nat.pow_le_pow_right (n := 2) (by decide) h8
  intro n
  induction n with
  | zero => exact fun _ => by simp [wtN, wpN]
  | succ n ih =>
    intro hn
    simp only [wtN, wpN]
    rw [ih (by omega)]
    have := cp_bits ⟨N, by omega⟩ ⟨m, by omega⟩ ⟨n, by omega⟩ hm (by show n < N; omega)
    simp only at this
    by_cases c : (nI m >>> (nI n &&& 31)) &&& 1 = 1
    · rw [if_pos c, if_neg (fun z => this.mp z c), Nat.mul_assoc]
    · rw [if_neg c, if_pos (this.mpr c), Nat.mul_assoc]
noncomputable def endS (H : zH) (q m : Nat) : Nat := if ce (aD (hpre (nI m) H) 24) q = -1 then 0 else 1
theorem chS_eq {H : zH} (hk : hok H) {N : Nat} (hN : hne H = nI N) (h8 : N ≤ 8) {q s : Nat} (hq : q < 8) (hs : s < 2 ^ N) : a_chS H q s = endS H q (2 ^ N - 1 - s) := by
  have p8 : 2 ^ N ≤ 2 ^ 8 := Nat.pow_le_pow_right (n := 2) (by decide) h8
  have e : hg H (nI s) = hpre (nI (2 ^ N - 1 - s)) H := by
    unfold hg hal
    rw [hN, cp_hg ⟨N, by omega⟩ ⟨s, by omega⟩ hs]
  unfold a_chS endS
  rw [e]
  have : c_state (hpre (nI (2 ^ N - 1 - s)) H) (hbe (hpre (nI (2 ^ N - 1 - s)) H)) q (aD (hpre (nI (2 ^ N - 1 - s)) H) 24) = 3 ↔ ¬ ce (aD (hpre (nI (2 ^ N - 1 - s)) H) 24) q = -1 := c_state3 (H := hpre (nI (2 ^ N - 1 - s)) H) (C0 := c00) (q := q) (n := 24) hq
  by_cases c : ce (aD (hpre (nI (2 ^ N - 1 - s)) H) 24) q = -1
  · rw [if_pos c, if_neg (fun z => this.mp z c)]
  · rw [if_neg c, if_pos (this.mpr c)]
theorem chN_eq {H : zH} (hk : hok H) {N : Nat} (hN : hne H = nI N) (h8 : N ≤ 8) {c q : Nat} (hq : q < 8) : a_chN H c q N (2 ^ N) 0 0 = sumN (fun m => endS H q m * wpN c m N) (2 ^ N) := by
  rw [a_chN_sum, Nat.zero_add, ← sumN_rev]
  refine sumN_congr _ (fun i hi => ?_)
  have e1 : 2 ^ N - 1 - (2 ^ N - 1 - i) = i := by omega
  show wtN c (0 + (2 ^ N - 1 - i)) (a_chS H q (0 + (2 ^ N - 1 - i))) N = _
  rw [Nat.zero_add, chS_eq hk hN h8 hq (by omega), e1, wt_wp h8 hi N (Nat.le_refl _)]
theorem m_255 : ∀ m : Fin 256, nI m.val &&& 255 = nI m.val := by decide +kernel
theorem cs_eq {I F : zI} (h : XJ I F) {c0 q0 : Nat} (hc : c0 ≤ 16) (hq8 : q0 < 8) (hq : q0 < (F 8 3).toNatClampNeg) (N : Nat) : ∀ r m A I1 F1, m + r ≤ 256 → XS I F I1 F1 → (x_cs (nI c0) (nI q0) N r m (lN A) I1 F1).1 = lN (A + sumN (fun i => endS (hl I F) q0 (m + i) * wpN c0 (m + i) N) r) ∧ XS I F (x_cs (nI c0) (nI q0) N r m (lN A) I1 F1).2.1 (x_cs (nI c0) (nI q0) N r m (lN A) I1 F1).2.2 := by
  intro r
  induction r with
  | zero => exact fun m A I1 F1 _ hS => ⟨rfl, hS⟩
  | succ r ih =>
    intro m A I1 F1 hm hS
    obtain ⟨e1, e2⟩ := pw_eq (XS_J h hS) (nI m)
    rw [XS_hl hS, m_255 ⟨m, by omega⟩] at e1
    simp only at e1
    have hn := (zn_of h.1.2.1 (by decide)).2
    have eb : (((x_peaceWith (nI m) I1 F1).1 >>> (nI q0 &&& 31)) &&& 1 = 1) ↔ ¬ ce (aD (hpre (nI m) (hl I F)) 24) q0 = -1 := by
      rw [e1]
      unfold a_peace
      rw [bits_bit _ _ (by rw [nq_pre]; exact Nat.le_of_lt_succ hn) q0 hq8]
      exact ⟨fun z => z.2, fun z => ⟨by rw [nq_pre]; exact hq, z⟩⟩
    rw [x_cs]
    have hsum : sumN (fun i => endS (hl I F) q0 (m + i) * wpN c0 (m + i) N) (r + 1) = endS (hl I F) q0 m * wpN c0 m N + sumN (fun i => endS (hl I F) q0 (m + 1 + i) * wpN c0 (m + 1 + i) N) r := by
      rw [sumN_shift]
      show endS (hl I F) q0 (m + 0) * wpN c0 (m + 0) N + sumN (fun i => endS (hl I F) q0 (m + (i + 1)) * wpN c0 (m + (i + 1)) N) r = _
      rw [Nat.add_zero, sumN_congr (g := fun i => endS (hl I F) q0 (m + 1 + i) * wpN c0 (m + 1 + i) N) r (fun i _ => by rw [show m + (i + 1) = m + 1 + i by omega])]
    by_cases c : ce (aD (hpre (nI m) (hl I F)) 24) q0 = -1
    · have e0 : endS (hl I F) q0 m = 0 := if_pos c
      rw [if_neg (fun z => eb.mp z c), hsum, e0, Nat.zero_mul, Nat.zero_add]
      exact ih (m + 1) A _ _ (by omega) (XS_trans hS e2)
    · have e0 : endS (hl I F) q0 m = 1 := if_neg c
      rw [if_pos (eb.mpr c), hsum, e0, Nat.one_mul, x_wt_eq hc, lN_add, ← Nat.add_assoc]
      exact ih (m + 1) _ _ _ (by omega) (XS_trans hS e2)
theorem x_and1 {n : Nat} (ha : n < 2 ^ 63) : lN n &&& 1 = lN (n % 2) := by
  apply Int64.toBitVec_inj.mp
  apply BitVec.eq_of_toNat_eq
  rw [Int64.toBitVec_and, BitVec.toNat_and]
  have h1 : (lN n).toBitVec.toNat = n := Nat.mod_eq_of_lt (by omega)
  have h2 : (lN (n % 2)).toBitVec.toNat = n % 2 := Nat.mod_eq_of_lt (by omega)
  have h3 : (1 : Int64).toBitVec.toNat = 1 := rfl
  rw [h1, h2, h3]
  exact Nat.and_two_pow_sub_one_eq_mod n 1
theorem x_shr1 {n : Nat} (h : n < 2 ^ 62) : lN n >>> (Int32.toInt64 1 &&& 63) = lN (n / 2) := by
  have hd : n / 2 ≤ n := Nat.div_le_self _ _
  apply Int64.toInt_inj.mp
  have e : (lN n >>> (Int32.toInt64 1 &&& 63)).toInt = (lN n).toInt >>> 1 := BitVec.toInt_sshiftRight ..
  rw [e, Int.shiftRight_eq_div_pow, pk_lT (by omega), pk_lT (by omega)]
  rfl
theorem x_low_eq : ∀ r k A, k ≤ r → A < 2 ^ 62 → k ≤ 60 → x_low (lN A) (lN (2 ^ k)) r = (lN (A / Nat.gcd A (2 ^ k)), lN (2 ^ k / Nat.gcd A (2 ^ k))) := by
  intro r
  induction r with
  | zero =>
    intro k A hk hA _
    obtain rfl : k = 0 := by omega
    rw [x_low, Nat.pow_zero, Nat.gcd_one_right, Nat.div_one, Nat.div_one]
  | succ r ih =>
    intro k A hk hA h60
    have hk2 : 2 ^ k < 2 ^ 62 := Nat.pow_lt_pow_right (by decide) (by omega)
    rw [x_low, x_and1 (by omega), x_and1 (by omega)]
    have hz : ∀ n, n < 2 → ((lN n = 0) ↔ n = 0) := fun n hn => by
      rw [show (0 : Int64) = lN 0 from rfl, pk_lEQ (by omega) (by decide)]
    by_cases c : A % 2 = 0 ∧ 2 ^ k % 2 = 0
    · rw [if_pos ⟨(hz _ (by omega)).mpr c.1, (hz _ (by omega)).mpr c.2⟩, x_shr1 hA, x_shr1 hk2]
      obtain ⟨j, rfl⟩ : ∃ j, k = j + 1 := ⟨k - 1, by
        rcases Nat.eq_zero_or_pos k with z | z
        · subst z
          exact absurd c.2 (by decide)
        · omega⟩
      have e1 : 2 ^ (j + 1) / 2 = 2 ^ j := by rw [Nat.pow_succ]; omega
      obtain ⟨B, rfl⟩ : ∃ B, A = 2 * B := ⟨A / 2, by omega⟩
      have e2 : 2 * B / 2 = B := by omega
      have e3 : (2 : Nat) ^ (j + 1) = 2 * 2 ^ j := by rw [Nat.pow_succ]; omega
      rw [e1, e2, ih j B (by omega) (by omega) (by omega), e3, Nat.gcd_mul_left, Nat.mul_div_mul_left _ _ (by decide), Nat.mul_div_mul_left _ _ (by decide)]
    · rw [if_neg (fun z => c ⟨(hz _ (by omega)).mp z.1, (hz _ (by omega)).mp z.2⟩)]
      have g1 : Nat.gcd A (2 ^ k) = 1 := by
        rcases Nat.eq_zero_or_pos k with z | z
        · subst z
          rw [Nat.pow_zero, Nat.gcd_one_right]
        · have hA2 : A % 2 = 1 := by
            have : 2 ^ k % 2 = 0 := by
              obtain ⟨j, rfl⟩ : ∃ j, k = j + 1 := ⟨k - 1, by omega⟩
              rw [Nat.pow_succ]
              omega
            have := fun y => c ⟨y, this⟩
            omega
          have hc : Nat.Coprime A 2 := by
            have : Nat.gcd A 2 = 1 := by rw [Nat.gcd_comm, Nat.gcd_rec, hA2]; rfl
            exact this
          exact Nat.Coprime.pow_right k hc
      rw [g1, Nat.div_one, Nat.div_one]
theorem wpN_le {c m : Nat} (hc : c ≤ 16) : ∀ n, wpN c m n ≤ 16 ^ n := by
  intro n
  induction n with
  | zero => exact Nat.le_refl _
  | succ n ih =>
    simp only [wpN]
    rw [Nat.pow_succ]
    exact Nat.mul_le_mul ih (by split <;> omega)
theorem p_chance (E : zE) (k : Nat) {I F : zI} (h : XJ I F) (c : Int32) (q : Int32) (w : Int32) : zVR E (k + 6) 529 [.ref 0, .int c, .int q, .int w] I F (fun v I' F' => v = some (.long (A_chance (hl I F) c q w)) ∧ XS I F I' F') := by
  refine zVR_in 5 cX5_chance 8 (some .long) zm_529 (by rw [zi_529]; rfl) (by rw [zi_529]) (Nat.le_of_ble_eq_true rfl) ?_
  intro Post hp
  show zG E 5 cX5_chance 8 (some .long) false 0 0 (k + 5) 0 0 Post 0 [some (.ref 0), some (.int c), some (.int q), some (.int w), none, none, none, none] [] zSH 77 _ _ 0 0
  refine g_chance (k := k) c q w h.1 (hp _ _ _ ?_)
  unfold x_chance A_chance
  rw [hh_nq]
  by_cases cc : (0 ≤ c ∧ c < 17) ∧ (0 ≤ q ∧ q < F 8 3) ∧ (0 ≤ w ∧ w < 2)
  · rw [if_pos cc, if_pos cc]
    obtain ⟨q1, q2, q3⟩ := q_lt h.1 cc.2.1
    obtain ⟨n1, n2⟩ := zn_of h.1.2.2.1 (by decide)
    obtain ⟨c0, c1, c2⟩ : ∃ c0, c0 ≤ 16 ∧ c = nI c0 := nI_of2 (M := 16) (n := 16) (by decide) (Int32.not_lt.mpr cc.1.1) (by rw [i_16]; exact cc.1.2)
    have c3 : c.toNatClampNeg = c0 := by rw [c2]; exact nI_clamp (by omega)
    have eN : (hne (hl I F)).toNatClampNeg = (F 8 9).toNatClampNeg := rfl
    rw [eN] at n1 n2
    have p8 : 2 ^ (F 8 9).toNatClampNeg ≤ 2 ^ 8 := Nat.pow_le_pow_right (n := 2) (by decide) (by omega)
    obtain ⟨e1, e2⟩ := cs_eq h c1 q2 q3 (F 8 9).toNatClampNeg (2 ^ (F 8 9).toNatClampNeg) 0 0 I F (by omega) (XS_refl h)
    rw [← c2, ← q1] at e1 e2
    have z0 : lN 0 = (0 : Int64) := rfl
    rw [z0] at e1 e2
    refine ⟨?_, e2⟩
    have eS : sumN (fun i => endS (hl I F) q.toNatClampNeg (0 + i) * wpN c0 (0 + i) (F 8 9).toNatClampNeg) (2 ^ (F 8 9).toNatClampNeg) = a_chN (hl I F) c0 q.toNatClampNeg (F 8 9).toNatClampNeg (2 ^ (F 8 9).toNatClampNeg) 0 0 := by
      rw [chN_eq h.1 n1 (by omega) q2]
      exact sumN_congr _ (fun i _ => by rw [Nat.zero_add])
    have hA : a_chN (hl I F) c0 q.toNatClampNeg (F 8 9).toNatClampNeg (2 ^ (F 8 9).toNatClampNeg) 0 0 < 2 ^ 62 := by
      have h1 := a_chN_le (hl I F) (q := q.toNatClampNeg) (n := (F 8 9).toNatClampNeg) c1 (2 ^ (F 8 9).toNatClampNeg) 0 0
      have p16 : 16 ^ (F 8 9).toNatClampNeg ≤ 16 ^ 8 := Nat.pow_le_pow_right (n := 16) (by decide) (by omega)
      have h2 : 2 ^ (F 8 9).toNatClampNeg * 16 ^ (F 8 9).toNatClampNeg ≤ 2 ^ 8 * 16 ^ 8 := Nat.mul_le_mul p8 p16
      have h3 : (2 : Nat) ^ 8 * 16 ^ 8 < 2 ^ 62 := by decide
      omega
    rw [e1, eS, Nat.zero_add]
    unfold a_chance
    rw [c3, eN]
    have s4 : x_bl (F 8 9).toNatClampNeg = lN (2 ^ (4 * (F 8 9).toNatClampNeg)) := shl4 ⟨(F 8 9).toNatClampNeg, n2⟩
    rw [s4]
    generalize a_chN (hl I F) c0 q.toNatClampNeg (F 8 9).toNatClampNeg (2 ^ (F 8 9).toNatClampNeg) 0 0 = A at *
    generalize (F 8 9).toNatClampNeg = N at *
    unfold x_lt
    have pp : 0 < 2 ^ (4 * N) := Nat.pow_pos (by decide)
    by_cases cA : A = 0
    · subst cA
      rw [if_pos (show lN 0 = 0 from rfl), Nat.gcd_zero_left]
      by_cases cw : w = 0
      · rw [if_pos cw, if_pos cw, Nat.zero_div]
        rfl
      · rw [if_neg cw, if_neg cw, Nat.div_self pp]
        rfl
    · have nz : ¬ lN A = 0 := by
        rw [show (0 : Int64) = lN 0 from rfl, pk_lEQ (by omega) (by decide)]
        exact cA
      rw [if_neg nz, x_low_eq 32 (4 * N) A (by omega) hA (by omega)]
      by_cases cw : w = 0
      · rw [if_pos cw, if_pos cw]
      · rw [if_neg cw, if_neg cw]
  · rw [if_neg cc, if_neg cc]
    exact ⟨rfl, XS_refl h⟩
