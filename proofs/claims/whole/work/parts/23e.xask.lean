/-! gold is 0 to 9; the class: ask -/
def gok (C : zC) : Prop := ∀ p, p < 8 → vp_in (cg C p) 10
theorem evs_nI (H : zH) (d kd : Int32) : ∀ n, ∃ m, m ≤ n ∧ c_evs H d kd n = nI m := by
  intro n
  induction n with
  | zero => exact ⟨0, Nat.le_refl _, rfl⟩
  | succ n ih =>
    obtain ⟨m, h1, h2⟩ := ih
    simp only [c_evs]
    split
    · exact ⟨m + 1, by omega, by rw [h2, nI_1]⟩
    · exact ⟨m, by omega, h2⟩
theorem zmx_sub {x : Int32} (h : vp_in x 10) {m : Nat} (hm : m < 1000) : vp_in (zmx 0 (x - nI m)) 10 := by
  obtain ⟨j, hj, rfl⟩ := vp_in_of h (by decide)
  unfold zmx
  by_cases c : m ≤ j
  · rw [pk_sub c]
    split
    · exact vp_in_nI (by omega) (by decide)
    · exact vp_in_nI (n := 0) (by decide) (by decide)
  · have := pk_sneg (a := j) (b := m) (by omega) (by omega)
    rw [if_neg (fun z => Int32.lt_irrefl (Int32.lt_trans z this))]
    exact vp_in_nI (n := 0) (by decide) (by decide)
theorem wash_ok {m : Nat} (hm : m < 1000) : ∀ r p g, (∀ i, i < 8 → vp_in (g i) 10) → ∀ i, i < 8 → vp_in (c_wash (nI m) r p g i) 10 := by
  intro r
  induction r with
  | zero => exact fun p g h => h
  | succ r ih =>
    intro p g h
    simp only [c_wash]
    refine ih (p + 1) _ (fun i hi => ?_)
    by_cases c : i = p
    · rw [c, pk_us]
      exact zmx_sub (h p (by omega)) hm
    · rw [pk_un c]
      exact h i hi
theorem gok_rain {H : zH} (hk : hok H) {d : Int32} {C : zC} (h : gok C) : gok (c_rain H d C) := by
  have hn := (zn_of hk.2.2.1 (by decide)).2
  obtain ⟨⟨g, s, t, hh, b, w, e, k⟩, ⟨td, li, wa, md, mp⟩⟩ := C
  intro p hp
  obtain ⟨m, h1, h2⟩ := evs_nI H d 0 (hne H).toNatClampNeg
  show vp_in (c_wash (2 * c_evs H d 0 (hne H).toNatClampNeg) (hnp H).toNatClampNeg 0 g p) 10
  rw [h2, zm2]
  exact wash_ok (by omega) _ _ _ h p hp
theorem gok_q {H : zH} {d : Int32} {q : Nat} {C : zC} (h : gok C) : gok (c_q H (hso H) (hfi H) (hwh H) (hbe H) d q C) := by
  by_cases c : ce C q = -1 ∧ ¬ d < hbe H q ∧ c_vi H q = 0
  · obtain ⟨c1, c2, c3⟩ := c
    rw [c_q_run c1 c2 c3]
    generalize (if cb C q &&& 1 = 0 then hfi H q else hwh H q).toNatClampNeg = a
    generalize (if cb C q &&& 1 = 0 then hwh H q else hfi H q).toNatClampNeg = x
    have h1 : gok (c_mid (hso H) q a x d C) := by
      obtain ⟨⟨g, s, t, hh, b, w, e, k⟩, ⟨td, li, wa, md, mp⟩⟩ := C
      simp only [c_mid]
      split
      · exact h
      · split
        · exact h
        · intro p hp
          show vp_in (upd g x (zmn 9 (g x + (if hso H x = 0 then 2 else 1))) p) 10
          by_cases cx : p = x
          · subst cx
            rw [pk_us]
            obtain ⟨j, hj, e⟩ := vp_in_of (h p hp) (by decide)
            have e : g p = nI j := e
            rw [e]
            split
            · rw [zp2, show (9 : Int32) = nI 9 from rfl, zmn_nI (by decide) (by omega)]
              exact vp_in_nI (by omega) (by decide)
            · rw [nI_1, show (9 : Int32) = nI 9 from rfl, zmn_nI (by decide) (by omega)]
              exact vp_in_nI (by omega) (by decide)
          · rw [pk_un cx]
            exact h p hp
    generalize c_mid (hso H) q a x d C = D at *
    obtain ⟨⟨g, s, t, hh, b, w, e, k⟩, ⟨td, li, wa, md, mp⟩⟩ := D
    exact h1
  · rw [c_q_skip c]
    exact h
theorem gok_qs {H : zH} {d : Int32} : ∀ r q C, gok C → gok (c_qs H d r q C) := by
  intro r
  induction r with
  | zero => exact fun q C h => h
  | succ r ih =>
    intro q C h
    simp only [c_qs]
    exact ih (q + 1) _ (gok_q h)
theorem gok_cD {H : zH} (hk : hok H) (C0 : zC) : ∀ n, gok (cD H C0 n) := by
  intro n
  induction n with
  | zero =>
    obtain ⟨⟨g, s, t, hh, b, w, e, k⟩, ⟨td, li, wa, md, mp⟩⟩ := C0
    intro p hp
    show vp_in (z_fill 8 0 g p) 10
    unfold z_fill
    rw [if_pos hp]
    exact vp_in_nI (n := 0) (by decide) (by decide)
  | succ n ih =>
    intro p hp
    rw [cD_succ]
    unfold c_pass
    rw [(c_ends _).1.1]
    exact gok_qs _ _ _ (gok_rain hk ih) p hp
theorem ix8 {d p : Int32} (h1 : vp_in d 24) (h2 : vp_in p 8) : (d * 8 + p).toNatClampNeg = d.toNatClampNeg * 8 + p.toNatClampNeg := by
  obtain ⟨d1, d2⟩ := zn_of h1 (by decide)
  obtain ⟨p1, p2⟩ := zn_of h2 (by decide)
  rw [d1, p1, zd8, nI_clamp (by omega), nI_clamp (by omega), nI_clamp (by omega)]
theorem zGB_ok : zGB := by
  intro I F hk d p hd hp
  have hpv : vp_in p 8 := vp_bel hk.1 (by decide) hp
  obtain ⟨p1, p2, p3⟩ := p_lt hk hp
  rw [ix8 hd hpv, xT_cD, cD_ck hk _ 24 (Nat.le_refl _) _ _ (zn_of hd (by decide)).2 p3]
  exact gok_cD hk _ _ _ p2
/-! counting -/
def cF (ok : Nat → Prop) (dc : ∀ v, Decidable (ok v)) (f : Nat → Nat) (g : Nat) : Nat → Nat → Nat
  | 0, _ => 0
  | r + 1, b => (if f b = g then (@ite _ (ok b) (dc b) 1 0) else 0) + cF ok dc f g r (b + 1)
theorem cF_pos {ok : Nat → Prop} {dc : ∀ v, Decidable (ok v)} {f : Nat → Nat} {g : Nat} : ∀ r b, 0 < cF ok dc f g r b → ∃ v, b ≤ v ∧ v < b + r ∧ ok v ∧ f v = g := by
  intro r
  induction r with
  | zero => exact fun b h => absurd h (by simp [cF])
  | succ r ih =>
    intro b h
    simp only [cF] at h
    by_cases c1 : f b = g
    · by_cases c2 : ok b
      · exact ⟨b, by omega, by omega, c2, c1⟩
      · rw [if_pos c1, if_neg c2, Nat.zero_add] at h
        obtain ⟨v, a1, a2, a3, a4⟩ := ih (b + 1) h
        exact ⟨v, by omega, by omega, a3, a4⟩
    · rw [if_neg c1, Nat.zero_add] at h
      obtain ⟨v, a1, a2, a3, a4⟩ := ih (b + 1) h
      exact ⟨v, by omega, by omega, a3, a4⟩
theorem cF_le {ok : Nat → Prop} {dc : ∀ v, Decidable (ok v)} {f : Nat → Nat} {g : Nat} : ∀ r b, cF ok dc f g r b ≤ r := by
  intro r
  induction r with
  | zero => exact fun b => Nat.le_refl _
  | succ r ih =>
    intro b
    simp only [cF]
    have := ih (b + 1)
    have h2 : (if f b = g then (@ite _ (ok b) (dc b) 1 0) else 0) ≤ 1 := by
      split
      · split <;> omega
      · omega
    omega
def mF (vals : Nat → Nat) : Nat → Nat → Nat → Nat
  | 0, _, m => m
  | r + 1, a, m => mF vals r (a + 1) (max m (vals a))
theorem mF_le {vals : Nat → Nat} {B : Nat} : ∀ r a m, m ≤ B → (∀ j, a ≤ j → j < a + r → vals j ≤ B) → mF vals r a m ≤ B := by
  intro r
  induction r with
  | zero => exact fun a m h _ => h
  | succ r ih =>
    intro a m h h2
    simp only [mF]
    exact ih (a + 1) _ (Nat.max_le.mpr ⟨h, h2 a (by omega) (by omega)⟩) (fun j p q => h2 j (by omega) (by omega))
theorem mF_ge {vals : Nat → Nat} : ∀ r a m, m ≤ mF vals r a m ∧ (∀ j, a ≤ j → j < a + r → vals j ≤ mF vals r a m) := by
  intro r
  induction r with
  | zero => exact fun a m => ⟨Nat.le_refl _, fun j h1 h2 => absurd h2 (by omega)⟩
  | succ r ih =>
    intro a m
    simp only [mF]
    obtain ⟨h1, h2⟩ := ih (a + 1) (max m (vals a))
    refine ⟨Nat.le_trans (Nat.le_max_left _ _) h1, fun j p q => ?_⟩
    by_cases c : j = a
    · subst c
      exact Nat.le_trans (Nat.le_max_right _ _) h1
    · exact h2 j (by omega) (by omega)
def mB (vals : Nat → Nat) : Nat → Nat
  | 0 => 0
  | q + 1 => max (mB vals q) (vals q)
theorem mB_le {vals : Nat → Nat} {B : Nat} : ∀ n, (∀ j, j < n → vals j ≤ B) → mB vals n ≤ B := by
  intro n
  induction n with
  | zero => exact fun _ => Nat.zero_le _
  | succ n ih =>
    intro h
    simp only [mB]
    exact Nat.max_le.mpr ⟨ih (fun j hj => h j (by omega)), h n (by omega)⟩
theorem mB_ge {vals : Nat → Nat} : ∀ n j, j < n → vals j ≤ mB vals n := by
  intro n
  induction n with
  | zero => exact fun j h => absurd h (by omega)
  | succ n ih =>
    intro j h
    simp only [mB]
    by_cases c : j = n
    · subst c
      exact Nat.le_max_right _ _
    · exact Nat.le_trans (ih j (by omega)) (Nat.le_max_left _ _)
theorem most_eq (ok : Nat → Prop) (dc : ∀ v, Decidable (ok v)) (f : Nat → Nat) (hf : ∀ v, f v < 10) : mF (fun a => @ite _ (ok a) (dc a) (cF ok dc f (f a) 9 1) 0) 9 1 0 = mB (fun g => cF ok dc f g 9 1) 10 := by
  apply Nat.le_antisymm
  · refine mF_le 9 1 0 (Nat.zero_le _) (fun j h1 h2 => ?_)
    show @ite _ (ok j) (dc j) (cF ok dc f (f j) 9 1) 0 ≤ _
    split
    · exact mB_ge (vals := fun g => cF ok dc f g 9 1) 10 (f j) (hf j)
    · exact Nat.zero_le _
  · refine mB_le 10 (fun g hg => ?_)
    show cF ok dc f g 9 1 ≤ _
    rcases Nat.eq_zero_or_pos (cF ok dc f g 9 1) with z | z
    · rw [z]
      exact Nat.zero_le _
    · obtain ⟨v, h1, h2, h3, h4⟩ := cF_pos 9 1 z
      have := (mF_ge (vals := fun a => @ite _ (ok a) (dc a) (cF ok dc f (f a) 9 1) 0) 9 1 0).2 v h1 h2
      have this : @ite _ (ok v) (dc v) (cF ok dc f (f v) 9 1) 0 ≤ mF (fun a => @ite _ (ok a) (dc a) (cF ok dc f (f a) 9 1) 0) 9 1 0 := this
      rw [if_pos h3, h4] at this
      exact this
/-! the tempers that fit, their gold -/
def okT (H : zH) (p : Nat) (sg : zr) (n : Nat) (v : Nat) : Prop := ¬ fitA (htem p (nI v) H) sg n = 0
noncomputable def dcT (H : zH) (p : Nat) (sg : zr) (n : Nat) : ∀ v, Decidable (okT H p sg n v) := fun v => by unfold okT; infer_instance
noncomputable def gdT (H : zH) (p d : Nat) (v : Nat) : Nat := (cg (aD (htem p (nI v) H) (d + 1)) p).toNatClampNeg
theorem gdT_ok {H : zH} (hk : hok H) {p : Nat} (hp : p < 8) (d v : Nat) : cg (aD (htem p (nI v) H) (d + 1)) p = nI (gdT H p d v) ∧ gdT H p d v < 10 := zn_of (gok_cD (hok_tem hk) c00 (d + 1) p hp) (by decide)
theorem zb_oneT : ∀ q e : Fin 10, ((zb1 q.val >>> (nI e.val &&& 31)) &&& 1 = 1) ↔ q = e := by decide +kernel
theorem zb_zeroT : ∀ e : Fin 10, ¬ (((0 : Int32) >>> (nI e.val &&& 31)) &&& 1 = 1) := by decide +kernel
theorem te_bit {H : zH} {p : Nat} {sg : zr} {n : Nat} : ∀ r v b j, v + r ≤ 10 → j < 10 → (((a_te H p sg n r v b >>> (nI j &&& 31)) &&& 1 = 1) ↔ ((b >>> (nI j &&& 31)) &&& 1 = 1) ∨ (v ≤ j ∧ j < v + r ∧ okT H p sg n j)) := by
  intro r
  induction r with
  | zero => exact fun v b j _ _ => ⟨fun z => Or.inl z, fun z => z.elim id (fun y => absurd y.2.1 (by omega))⟩
  | succ r ih =>
    intro v b j hv hj
    simp only [a_te]
    rw [ih (v + 1) _ j (by omega) hj]
    by_cases c : fitA (htem p (nI v) H) sg n = 0
    · rw [if_pos c]
      constructor
      · rintro (z | z)
        · exact Or.inl z
        · exact Or.inr ⟨by omega, by omega, z.2.2⟩
      · rintro (z | z)
        · exact Or.inl z
        · have : ¬ j = v := fun y => z.2.2 (y ▸ c)
          exact Or.inr ⟨by omega, by omega, z.2.2⟩
    · rw [if_neg c, zb_or _ _ (by omega), zb_oneT ⟨v, by omega⟩ ⟨j, hj⟩]
      constructor
      · rintro ((z | z) | z)
        · exact Or.inl z
        · have z : v = j := congrArg Fin.val z
          subst z
          exact Or.inr ⟨by omega, by omega, c⟩
        · exact Or.inr ⟨by omega, by omega, z.2.2⟩
      · rintro (z | z)
        · exact Or.inl (Or.inl z)
        · by_cases y : j = v
          · subst y
            exact Or.inl (Or.inr rfl)
          · exact Or.inr ⟨by omega, by omega, z.2.2⟩
theorem temp_bit {H : zH} {p : Nat} {sg : zr} {n j : Nat} (h1 : 1 ≤ j) (hj : j < 10) : ((a_temp H p sg n >>> (nI j &&& 31)) &&& 1 = 1) ↔ okT H p sg n j := by
  unfold a_temp
  rw [te_bit 9 1 0 j (by decide) hj]
  exact ⟨fun z => z.elim (fun y => absurd y (zb_zeroT ⟨j, hj⟩)) (fun y => y.2.2), fun z => Or.inr ⟨h1, by omega, z⟩⟩
theorem zmx_nI {a b : Nat} (ha : a < 2 ^ 31) (hb : b < 2 ^ 31) : zmx (nI a) (nI b) = nI (max a b) := by
  unfold zmx
  by_cases c : a < b
  · rw [if_pos ((nI_ltI ha hb).mpr c), Nat.max_eq_right (by omega)]
  · rw [if_neg (fun z => c ((nI_ltI ha hb).mp z)), Nat.max_eq_left (by omega)]
theorem alN_eq {H : zH} (hk : hok H) {p : Nat} (hp : p < 8) {sg : zr} {n d : Nat} (hd : d < 24) {a : Nat} (h1 : 1 ≤ a) (h2 : a < 10) : ∀ r b m, b + r = 10 → 1 ≤ b → m_alN (a_gd H p) (a_temp H p sg n) d a r b (nI m) = nI (m + @ite _ (okT H p sg n a) (dcT H p sg n a) (cF (okT H p sg n) (dcT H p sg n) (gdT H p d) (gdT H p d a) r b) 0) := by
  have hg : ∀ v, a_gd H p (24 * v + d) = nI (gdT H p d v) := fun v => by
    unfold a_gd
    rw [show (24 * v + d) / 24 = v by omega, show (24 * v + d) % 24 = d by omega]
    exact (gdT_ok hk hp d v).1
  intro r
  induction r with
  | zero =>
    intro b m hb h1b
    simp only [m_alN, cF]
    split <;> rfl
  | succ r ih =>
    intro b m hb h1b
    simp only [m_alN]
    rw [hg, hg]
    have ng : nI (gdT H p d a) = nI (gdT H p d b) ↔ gdT H p d a = gdT H p d b := nI_eq (by have := (gdT_ok hk hp d a).2; omega) (by have := (gdT_ok hk hp d b).2; omega)
    have ta := temp_bit (H := H) (p := p) (sg := sg) (n := n) h1 h2
    have tb := temp_bit (H := H) (p := p) (sg := sg) (n := n) h1b (show b < 10 by omega)
    by_cases ca : okT H p sg n a
    · by_cases cb : okT H p sg n b
      · by_cases cg0 : gdT H p d a = gdT H p d b
        · rw [if_pos ⟨ta.mpr ca, tb.mpr cb, ng.mpr cg0⟩, nI_1, ih (b + 1) (m + 1) (by omega) (by omega), if_pos ca, if_pos ca]
          simp only [cF]
          rw [if_pos cg0.symm, if_pos cb]
          exact congrArg nI (by omega)
        · rw [if_neg (fun z => cg0 (ng.mp z.2.2)), px_0, ih (b + 1) m (by omega) (by omega), if_pos ca, if_pos ca]
          simp only [cF]
          rw [if_neg (fun z => cg0 z.symm), Nat.zero_add]
      · rw [if_neg (fun z => cb (tb.mp z.2.1)), px_0, ih (b + 1) m (by omega) (by omega), if_pos ca, if_pos ca]
        simp only [cF]
        rw [if_neg cb]
        split <;> rw [Nat.zero_add]
    · rw [if_neg (fun z => ca (ta.mp z.1)), px_0, ih (b + 1) m (by omega) (by omega), if_neg ca, if_neg ca]
theorem al_eq {H : zH} (hk : hok H) {p : Nat} (hp : p < 8) {sg : zr} {n d : Nat} (hd : d < 24) : ∀ r a m, a + r = 10 → 1 ≤ a → m < 1000 → m_al (a_gd H p) (a_temp H p sg n) d r a (nI m) = nI (mF (fun a => @ite _ (okT H p sg n a) (dcT H p sg n a) (cF (okT H p sg n) (dcT H p sg n) (gdT H p d) (gdT H p d a) 9 1) 0) r a m) := by
  intro r
  induction r with
  | zero => exact fun a m _ _ _ => rfl
  | succ r ih =>
    intro a m ha h1 hm
    simp only [m_al, mF]
    have e := alN_eq (H := H) hk hp (sg := sg) (n := n) hd h1 (show a < 10 by omega) 9 1 0 rfl (by decide)
    have e0 : nI 0 = (0 : Int32) := rfl
    rw [e0] at e
    have hb : @ite _ (okT H p sg n a) (dcT H p sg n a) (cF (okT H p sg n) (dcT H p sg n) (gdT H p d) (gdT H p d a) 9 1) 0 ≤ 9 := by
      split
      · exact cF_le 9 1
      · omega
    rw [e, Nat.zero_add, zmx_nI (by omega) (by omega)]
    exact ih (a + 1) _ (by omega) (by omega) (by omega)
theorem al_all {H : zH} (hk : hok H) {p : Nat} (hp : p < 8) {sg : zr} {n d : Nat} (hd : d < 24) : m_al (a_gd H p) (a_temp H p sg n) d 9 1 0 = nI (mB (fun g => cF (okT H p sg n) (dcT H p sg n) (gdT H p d) g 9 1) 10) := by
  have := al_eq (H := H) hk hp (sg := sg) (n := n) hd 9 1 0 rfl (by decide) (by decide)
  have e0 : nI 0 = (0 : Int32) := rfl
  rw [e0] at this
  rw [this, most_eq _ _ _ (fun v => (gdT_ok hk hp d v).2)]
/-! the tally of the class -/
def tx_inv (p : Nat) (I F I1 F1 : zI) : Prop := (∀ j, ¬ (26 ≤ j ∧ j ≤ 34) → ¬ j = 10 → ¬ j = 40 → I1 j = I j) ∧ (∀ j, ¬ j = 26 → F1 j = F j) ∧ (∀ j, ¬ j = p → I1 10 j = I 10 j)
theorem tx_hl {p : Nat} {I F I1 F1 : zI} {v : Int32} (h : tx_inv p I F I1 F1) : hl (zu2 I1 10 p v) F1 = htem p v (hl I F) := by
  obtain ⟨h1, h2, h3⟩ := h
  have e : zu2 I1 10 p v 10 = upd (I 10) p v := by
    rw [zu_eq]
    funext j
    by_cases c : j = p
    · rw [c, pk_us, pk_us]
    · rw [pk_un c, pk_un c, h3 j c]
  show (zu2 I1 10 p v 9, zu2 I1 10 p v 10, zu2 I1 10 p v 11, zu2 I1 10 p v 12, zu2 I1 10 p v 13, zu2 I1 10 p v 14, zu2 I1 10 p v 15, zu2 I1 10 p v 16, F1 8 0, F1 8 3, F1 8 8, F1 8 9, F1 8 12) = (I 9, upd (I 10) p v, I 11, I 12, I 13, I 14, I 15, I 16, F 8 0, F 8 3, F 8 8, F 8 9, F 8 12)
  rw [e, h2 8 (by decide), zu_ne (by decide), zu_ne (by decide), zu_ne (by decide), zu_ne (by decide), zu_ne (by decide), zu_ne (by decide), zu_ne (by decide), h1 9 (by omega) (by decide) (by decide), h1 11 (by omega) (by decide) (by decide), h1 12 (by omega) (by decide) (by decide), h1 13 (by omega) (by decide) (by decide), h1 14 (by omega) (by decide) (by decide), h1 15 (by omega) (by decide) (by decide), h1 16 (by omega) (by decide) (by decide)]
theorem tx_next {p : Nat} {I F I1 F1 : zI} {v : Int32} (h : tx_inv p I F I1 F1) : tx_inv p I F (x_tI (zu2 I1 10 p v) F1) (x_tF (zu2 I1 10 p v) F1) := by
  obtain ⟨h1, h2, h3⟩ := h
  refine ⟨fun j a b c => ?_, fun j a => ?_, fun j a => ?_⟩
  · rw [(XT_t _ _).1 j a, zu_ne b, h1 j a b c]
  · rw [(XT_t _ _).2 j a, h2 j a]
  · rw [(XT_t _ _).1 10 (by omega), zu_eq, pk_un a, h3 j a]
theorem ti_at (p : Int32) (f : Nat → Nat) (hf : ∀ d, f d < 10) : ∀ r d0 I, d0 + r ≤ 24 → (∀ d, d < 24 → I 34 (nI d * 8 + p).toNatClampNeg = nI (f d)) → ∀ d g, d < 24 → g < 10 → x_ti p r d0 I 40 (d * 10 + g) = if d0 ≤ d ∧ d < d0 + r ∧ f d = g then I 40 (d * 10 + g) + 1 else I 40 (d * 10 + g) := by
  intro r
  induction r with
  | zero =>
    intro d0 I _ _ d g _ _
    rw [if_neg (by omega)]
    rfl
  | succ r ih =>
    intro d0 I hd hI d g h1 h2
    have e0 : (nI d0 * 10 + I 34 (nI d0 * 8 + p).toNatClampNeg).toNatClampNeg = d0 * 10 + f d0 := by
      have := hf d0
      rw [hI d0 (by omega), show (10 : Int32) = nI 10 from rfl, pk_mul, nI_add, nI_clamp (by omega)]
    have f0 := hf d0
    rw [x_ti, e0, ih (d0 + 1) _ (by omega) (fun d hd => by rw [zu_ne (by decide)]; exact hI d hd) d g h1 h2, zu_eq]
    by_cases c : d * 10 + g = d0 * 10 + f d0
    · have cd : d = d0 := by omega
      subst cd
      have cg1 : f d = g := by omega
      rw [if_neg (by omega), if_pos ⟨by omega, by omega, cg1⟩, cg1, pk_us]
    · rw [pk_un c]
      by_cases c2 : d0 + 1 ≤ d ∧ d < d0 + 1 + r ∧ f d = g
      · rw [if_pos c2, if_pos ⟨by omega, by omega, c2.2.2⟩]
      · rw [if_neg c2, if_neg (fun z => c2 ⟨by
          rcases Nat.lt_or_ge d0 d with y | y
          · omega
          · have : d = d0 := by omega
            subst this
            omega, by omega, z.2.2⟩)]
theorem tgo_eq {I F : zI} (h : XJ I F) (p : Int32) (hp : 0 ≤ p ∧ p < F 8 0) : ∀ r v I1 F1, v + r = 10 → tx_inv p.toNatClampNeg I F I1 F1 → tx_inv p.toNatClampNeg I F (x_tgo p r v I1 F1).1 (x_tgo p r v I1 F1).2 ∧ (∀ T : Nat → Nat → Nat, (∀ d g, d < 24 → g < 10 → I1 40 (d * 10 + g) = nI (T d g)) → ∀ d g, d < 24 → g < 10 → (x_tgo p r v I1 F1).1 40 (d * 10 + g) = nI (T d g + cF (okT (hl I F) p.toNatClampNeg (I 75) (F 50 33).toNatClampNeg) (dcT (hl I F) p.toNatClampNeg (I 75) (F 50 33).toNatClampNeg) (gdT (hl I F) p.toNatClampNeg d) g r v)) := by
  have hpv : vp_in p 8 := vp_bel h.1.1 (by decide) hp
  obtain ⟨p1, p2, p3⟩ := p_lt h.1 hp
  intro r
  induction r with
  | zero => exact fun v I1 F1 _ hi => ⟨hi, fun T hT d g h1 h2 => hT d g h1 h2⟩
  | succ r ih =>
    intro v I1 F1 hv hi
    have ef : x_fit (zu2 I1 10 p.toNatClampNeg (nI v)) F1 = fitA (htem p.toNatClampNeg (nI v) (hl I F)) (I 75) (F 50 33).toNatClampNeg := xfit_eq h.2.2.2.2.2.2.1 (by rw [zu_ne (by decide)]; exact hi.1 37 (by omega) (by decide) (by decide)) (by rw [zu_ne (by decide)]; exact hi.1 38 (by omega) (by decide) (by decide)) (by rw [zu_ne (by decide)]; exact hi.1 39 (by omega) (by decide) (by decide)) (hi.2.1 36 (by decide)) (tx_hl hi) (hok_tem h.1) (hcut_tem h.2.1)
    have hn := tx_next (v := nI v) hi
    have e40 : x_tI (zu2 I1 10 p.toNatClampNeg (nI v)) F1 40 = I1 40 := by rw [(XT_t _ _).1 40 (by omega), zu_ne (by decide)]
    rw [x_tgo, ef]
    by_cases c : fitA (htem p.toNatClampNeg (nI v) (hl I F)) (I 75) (F 50 33).toNatClampNeg = 0
    · rw [if_pos c]
      obtain ⟨a1, a2⟩ := ih (v + 1) _ _ (by omega) hn
      refine ⟨a1, fun T hT d g h1 h2 => ?_⟩
      rw [a2 T (fun d g h1 h2 => by rw [e40]; exact hT d g h1 h2) d g h1 h2]
      simp only [cF]
      have nk : ¬ okT (hl I F) p.toNatClampNeg (I 75) (F 50 33).toNatClampNeg v := fun z => z c
      rw [if_neg nk]
      split <;> rw [Nat.zero_add]
    · rw [if_neg c]
      have hgold : ∀ d, d < 24 → x_tI (zu2 I1 10 p.toNatClampNeg (nI v)) F1 34 (nI d * 8 + p).toNatClampNeg = nI (gdT (hl I F) p.toNatClampNeg d v) := fun d hd => by
        have dv : vp_in (nI d) 24 := vp_in_nI hd (by decide)
        rw [← (gdT_ok h.1 p2 d v).1, ix8 dv hpv, nI_clamp (by omega)]
        show ck (x_T (zu2 I1 10 p.toNatClampNeg (nI v)) F1) (d * 8 + p.toNatClampNeg) = _
        rw [xT_cD, tx_hl hi, cD_ck (hok_tem h.1) _ 24 (Nat.le_refl _) d _ hd (by rw [np_tem]; exact p3)]
        exact ((ind_day (hok_tem h.1) (hcut_tem h.2.1) _ hd).2.1 _ p2).1
      have hn2 : tx_inv p.toNatClampNeg I F (x_ti p 24 0 (x_tI (zu2 I1 10 p.toNatClampNeg (nI v)) F1)) (x_tF (zu2 I1 10 p.toNatClampNeg (nI v)) F1) := ⟨fun j a b c => by rw [ti_out p j c]; exact hn.1 j a b c, hn.2.1, fun j a => by rw [ti_out p 10 (by decide)]; exact hn.2.2 j a⟩
      obtain ⟨a1, a2⟩ := ih (v + 1) _ _ (by omega) hn2
      refine ⟨a1, fun T hT d g h1 h2 => ?_⟩
      rw [a2 (fun d g => T d g + if gdT (hl I F) p.toNatClampNeg d v = g then 1 else 0) (fun d g h1 h2 => by
        rw [ti_at p (fun d => gdT (hl I F) p.toNatClampNeg d v) (fun d => (gdT_ok h.1 p2 d v).2) 24 0 _ (by omega) hgold d g h1 h2, e40, hT d g h1 h2]
        by_cases c2 : gdT (hl I F) p.toNatClampNeg d v = g
        · rw [if_pos ⟨by omega, by omega, c2⟩, if_pos c2, nI_1]
        · rw [if_neg (fun z => c2 z.2.2), if_neg c2, Nat.add_zero]) d g h1 h2]
      simp only [cF]
      have nk : okT (hl I F) p.toNatClampNeg (I 75) (F 50 33).toNatClampNeg v := c
      rw [if_pos nk, Nat.add_assoc]
theorem ma_eq {g : zr} {d : Nat} {vals : Nat → Nat} (hb : ∀ j, vals j < 1000) : ∀ n, (∀ j, j < n → g (d * 10 + j) = nI (vals j)) → x_ma g d n = nI (mB vals n) ∧ mB vals n < 1000 := by
  intro n
  induction n with
  | zero => exact fun _ => ⟨rfl, show (0 : Nat) < 1000 by decide⟩
  | succ n ih =>
    intro h
    obtain ⟨a1, a2⟩ := ih (fun j hj => h j (by omega))
    have := hb n
    simp only [x_ma, mB]
    rw [a1, h n (by omega), zmx_nI (by omega) (by omega)]
    exact ⟨rfl, by omega⟩
theorem as_eq {g : zr} {al : Nat → Int32} (h : ∀ d, d < 24 → x_ma g d 10 = al d) : ∀ r d b, d + r = 24 → vp_in b 24 → x_as g r d b (al b.toNatClampNeg) = m_as al r d b := by
  intro r
  induction r with
  | zero => exact fun d b _ _ => rfl
  | succ r ih =>
    intro d b hd hb
    simp only [x_as, m_as]
    rw [h d (by omega)]
    by_cases c : al b.toNatClampNeg ≤ al d
    · rw [if_pos c, if_pos c]
      exact ih (d + 1) b (by omega) hb
    · rw [if_neg c, if_neg c]
      have := ih (d + 1) (nI d) (by omega) (vp_in_nI (by omega) (by decide))
      rw [nI_clamp (by omega)] at this
      exact this
theorem p_ask (E : zE) (k : Nat) {I F : zI} (h : XJ I F) (p : Int32) : zVR E (k + 6) 528 [.ref 0, .int p] I F (fun v I' F' => v = some (.int (A_ask (hl I F) p (I 75) (F 50 33).toNatClampNeg)) ∧ XS I F I' F') := by
  refine zVR_in 5 cX5_ask 6 (some .int) zm_528 (by rw [zi_528]; rfl) (by rw [zi_528]) (Nat.le_of_ble_eq_true rfl) ?_
  intro Post hp
  show zG E 5 cX5_ask 6 (some .int) false 0 0 (k + 5) 0 0 Post 0 [some (.ref 0), some (.int p), none, none, none, none] [] zSH 77 _ _ 0 0
  refine g_ask (k := k) p ⟨zGB_ok, h.1, JS_sok h.2.2.2.2.2.2.1⟩ (hp _ _ _ ?_)
  unfold x_ask A_ask
  rw [hh_np]
  by_cases c : 0 ≤ p ∧ p < F 8 0
  · rw [if_pos c, if_pos c]
    obtain ⟨p1, p2, p3⟩ := p_lt h.1 c
    obtain ⟨t1, t2⟩ := tgo_eq h p c 9 1 (va_up I 40 (z_fill 240 0 (I 40))) F rfl ⟨fun j _ _ c => va_ne c, fun _ _ => rfl, fun j _ => by rw [va_ne (by decide)]⟩
    have T := t2 (fun _ _ => 0) (fun d g h1 h2 => by rw [va_eq]; exact if_pos (by omega))
    have M : ∀ d, d < 24 → x_ma ((x_tal p I F).1 40) d 10 = m_al (a_gd (hl I F) p.toNatClampNeg) (a_temp (hl I F) p.toNatClampNeg (I 75) (F 50 33).toNatClampNeg) d 9 1 0 := fun d hd => by
      rw [al_all h.1 p2 hd]
      refine (ma_eq (fun j => ?_) 10 (fun j hj => ?_)).1
      · have := cF_le (ok := okT (hl I F) p.toNatClampNeg (I 75) (F 50 33).toNatClampNeg) (dc := dcT (hl I F) p.toNatClampNeg (I 75) (F 50 33).toNatClampNeg) (f := gdT (hl I F) p.toNatClampNeg d) (g := j) 9 1
        omega
      · show zu2 (x_tgo p 9 1 (va_up I 40 (z_fill 240 0 (I 40))) F).1 10 p.toNatClampNeg (I 10 p.toNatClampNeg) 40 (d * 10 + j) = _
        rw [zu_ne (by decide), T d j hd hj, Nat.zero_add]
    have hb : ∀ d, d < 24 → ∃ m, m < 1000 ∧ m_al (a_gd (hl I F) p.toNatClampNeg) (a_temp (hl I F) p.toNatClampNeg (I 75) (F 50 33).toNatClampNeg) d 9 1 0 = nI m := fun d hd => by
      rw [al_all h.1 p2 hd]
      refine ⟨_, ?_, rfl⟩
      refine Nat.lt_of_le_of_lt (mB_le (B := 9) 10 (fun j _ => cF_le 9 1)) (by decide)
    refine ⟨?_, ?_⟩
    · refine congrArg (fun z => some (Value.int z)) ?_
      show x_as ((x_tal p I F).1 40) 24 0 0 2147483647 = _
      unfold a_ask
      obtain ⟨m, m1, m2⟩ := hb 0 (by decide)
      have e1 : x_as ((x_tal p I F).1 40) 24 0 0 2147483647 = x_as ((x_tal p I F).1 40) 23 1 (nI 0) (x_ma ((x_tal p I F).1 40) 0 10) := if_neg (by
        rw [M 0 (by decide), m2, show (2147483647 : Int32) = nI 2147483647 from rfl, nI_leI (by decide) (by omega)]
        omega)
      rw [e1, M 0 (by decide)]
      have := as_eq (g := (x_tal p I F).1 40) (al := fun d => m_al (a_gd (hl I F) p.toNatClampNeg) (a_temp (hl I F) p.toNatClampNeg (I 75) (F 50 33).toNatClampNeg) d 9 1 0) M 23 1 (nI 0) rfl (vp_in_nI (by decide) (by decide))
      exact this
    · have e10 : ∀ j, ¬ (26 ≤ j ∧ j ≤ 34) → ¬ j = 40 → (x_tal p I F).1 j = I j := fun j a b => by
        show zu2 (x_tgo p 9 1 (va_up I 40 (z_fill 240 0 (I 40))) F).1 10 p.toNatClampNeg (I 10 p.toNatClampNeg) j = I j
        by_cases c10 : j = 10
        · subst c10
          rw [zu_eq]
          funext i
          by_cases c2 : i = p.toNatClampNeg
          · rw [c2, pk_us]
          · rw [pk_un c2, t1.2.2 i c2]
        · rw [zu_ne c10, t1.1 j a c10 b]
      have eF : ∀ j, ¬ j = 26 → (x_tal p I F).2 j = F j := t1.2.1
      have eh : hl (x_tal p I F).1 (x_tal p I F).2 = hl I F := hl_eq (fun j a b => e10 j (by omega) (by omega)) (eF 8 (by decide))
      refine ⟨fun j a b => e10 j (by omega) b, fun j a b c => eF j c, fun i _ => by show (x_tal p I F).2 0 i = F 0 i; rw [eF 0 (by decide)], ?_, ?_⟩
      · show JP (x_tal p I F).1 (x_tal p I F).2
        have e17 : getC 17 (x_tal p I F).1 (x_tal p I F).2 = getC 17 I F := by
          unfold getC
          rw [e10 (17 + 1) (by omega) (by omega), e10 (17 + 2) (by omega) (by omega), e10 (17 + 3) (by omega) (by omega), e10 (17 + 4) (by omega) (by omega), e10 (17 + 5) (by omega) (by omega), e10 (17 + 6) (by omega) (by omega), e10 (17 + 7) (by omega) (by omega), e10 (17 + 8) (by omega) (by omega), eF 17 (by decide)]
        unfold JP
        rw [eh, e17, eF 17 (by decide)]
        exact h.2.2.1
      · show JC (x_tal p I F).1 (x_tal p I F).2
        unfold JC
        rw [eh, eF 0 (by decide), e10 35 (by omega) (by omega)]
        exact h.2.2.2.1
  · rw [if_neg c, if_neg c]
    exact ⟨rfl, XS_refl h⟩
