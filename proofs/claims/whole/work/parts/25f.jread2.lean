theorem rdc_congr {it it' : zr} {b z : Nat} (hz : z ≤ 60) (h : ∀ i, i < z → it i = it' (b + i)) : ∀ r c, c + r ≤ 8 → rdc it 0 (nI z) r c = rdc it' b (nI z) r c := by
  intro r
  induction r with
  | zero => exact fun _ _ => rfl
  | succ r ih =>
    intro c hc
    simp only [rdc, Nat.zero_add]
    by_cases hw : nI z < nI (2 * c + 2)
    · rw [if_pos hw, if_pos hw]
    · rw [if_neg hw, if_neg hw]
      rw [znlt (by omega) (by omega)] at hw
      rw [h (2 * c) (by omega), h (2 * c + 1) (by omega), ih (c + 1) (by omega), show b + (2 * c + 1) = b + 2 * c + 1 by omega]
theorem rdc_sz {it : zr} {b z : Nat} (hz : z ≤ 60) : ∀ r c, c + r ≤ 8 → ∀ i, c ≤ i → i < rdc it b (nI z) r c → 2 * i + 2 ≤ z := by
  intro r
  induction r with
  | zero =>
    intro c _ i h1 h2
    simp only [rdc] at h2
    omega
  | succ r ih =>
    intro c hc i h1 h2
    simp only [rdc] at h2
    by_cases hw : nI z < nI (2 * c + 2)
    · rw [if_pos hw] at h2
      omega
    · rw [if_neg hw] at h2
      rw [znlt (by omega) (by omega)] at hw
      split at h2
      · by_cases e : i = c
        · omega
        · exact ih (c + 1) (by omega) i (by omega) h2
      · omega
theorem J_find {I F : zI} (h : J I F) (x : Int32) : J I (zu2 (zu2 F 0 9 x) 50 4 x) := by
  obtain ⟨⟨h1, h2, h3, h4, h5, h6⟩, h7, h8⟩ := h
  have hh : hl I (zu2 (zu2 F 0 9 x) 50 4 x) = hl I F := hl_eq (fun _ _ _ => rfl) rfl
  refine ⟨⟨h1, h2, h3, h4, ?_, ?_⟩, ?_, ?_⟩
  · exact JW_fr h5 (fun s hs => ⟨by rw [zu_ne (by omega), zu_ne (by omega)], rfl⟩) rfl rfl rfl
  · obtain ⟨_, l2, l3, l4, l5⟩ := h6
    exact ⟨rfl, l2, l3, l4, l5⟩
  · unfold JP at h7 ⊢
    rw [hh]
    exact h7
  · unfold JC at h8 ⊢
    rw [hh]
    exact h8
theorem JW_lost {s : Nat} {a b : zr} {x y : Int32} {c : zr} (h : JW1 s a b x y c) : (a 0 = -1) ↔ ¬ 0 ≤ x := by
  obtain ⟨h1, h2, _⟩ := h
  rw [h1]
  rcases h2 with rfl | rfl | rfl | rfl <;> decide
theorem z_snn {s : Int32} : z_sn s = 42 + 2 * s.toNatClampNeg := rfl
set_option maxHeartbeats 4000000 in
theorem u_read {I F : zI} (h : J I F) (s : Int32) : (x_read s I F).1 = (m_read s (x_read s I F).2.1 (x_read s I F).2.2).1 ∧ J (m_read s (x_read s I F).2.1 (x_read s I F).2.2).2.1 (m_read s (x_read s I F).2.1 (x_read s I F).2.2).2.2 := by
  obtain ⟨e1, e2, e3⟩ := h.1.2.2.1
  rcases (Classical.em (0 ≤ s ∧ s < 4)).symm with hs | hs
  · have x1 : x_read s I F = (-2, I, F) := if_neg hs
    rw [x1]
    have x2 : m_read s I F = (-2, I, F) := if_neg hs
    rw [x2]
    exact ⟨rfl, h⟩
  have sv : vp_in s 4 := by rw [← vp_iff (by decide)]; exact hs
  obtain ⟨s1, s2⟩ := zn_of sv (by decide)
  have w := h.1.2.2.2.2.1 _ s2
  have wl := JW_lost w
  rw [← z_snn] at w wl
  by_cases h0 : F (z_sn s) 0 = -1
  · have x1 : x_read s I F = (-11, I, zu2 F 0 9 1) := (if_pos hs).trans (if_pos h0)
    rw [x1]
    have x2 : m_read s I (zu2 F 0 9 1) = (-11, I, zu2 (zu2 F 0 9 1) 50 4 1) := (if_pos hs).trans (if_neg (wl.mp h0))
    rw [x2]
    exact ⟨rfl, J_find h 1⟩
  have h0' : 0 ≤ I 51 s.toNatClampNeg := Classical.byContradiction fun z => h0 (wl.mpr z)
  have hx : ¬ I 51 s.toNatClampNeg = -1 := fun z => h0 (w.1.trans z)
  obtain ⟨w1, w2, w3, w4, w5⟩ := w
  obtain ⟨w6, w7⟩ := w5 hx
  obtain ⟨z, hz, ez⟩ := vp_in_of w4 (by decide)
  rw [ez, nI_clamp (by omega)] at w7
  obtain ⟨n, hn, en⟩ := vp_in_of e2 (by decide)
  have x1 : x_read s I F = ((x_rd (z_sn s) (8 - (F 8 9).toNatClampNeg) 0 I F).1, (x_rd (z_sn s) (8 - (F 8 9).toNatClampNeg) 0 I F).2.1, x_forg (x_rd (z_sn s) (8 - (F 8 9).toNatClampNeg) 0 I F).2.2) := (if_pos hs).trans (if_neg h0)
  rw [en, nI_clamp (by omega)] at x1
  obtain ⟨q1, q2, q3, q4, q5, q6, q7, q8⟩ := x_rd_eq (z_sn s) (by rw [z_snn]; omega) n (8 - n) 0 I F (by omega) en h.1.2.2.2.2.2.2.2.2.2
  rw [x1]
  clear x1
  generalize x_rd (z_sn s) (8 - n) 0 I F = X at *
  obtain ⟨v, I1, F1⟩ := X
  dsimp only at *
  have i51 : I1 51 = I 51 := q2 51 (by decide) (by decide)
  have i52 : I1 52 = I 52 := q2 52 (by decide) (by decide)
  have i53 : I1 53 = I 53 := q2 53 (by decide) (by decide)
  have i60 : I1 60 = I 60 := q2 60 (by decide) (by decide)
  have f13 : x_forg F1 50 13 = nI n := by
    show F1 50 13 = _
    rw [q5 50 (by decide), ← e1, en]
  have x2 : m_read s I1 (x_forg F1) = m_rd s.toNatClampNeg (8 - n) 0 I1 (x_forg F1) := by
    refine (if_pos hs).trans ((if_pos (by rw [i51]; exact h0')).trans ?_)
    rw [f13, nI_clamp (by omega)]
  rw [x2]
  obtain ⟨p1, p2, p3⟩ := m_rd_eq s.toNatClampNeg n (8 - n) 0 I1 (x_forg F1) (by omega) f13
  rw [i53, i52, ez] at p1 p2 p3
  rw [w6, ez] at q1 q3 q4 q7
  have hc := rdc_congr (it := I (z_sn s + 1)) (it' := I 53) (b := 60 * s.toNatClampNeg) (z := z) (by omega) w7 (8 - n) 0 (by omega)
  have hsz := rdc_sz (it := I 53) (b := 60 * s.toNatClampNeg) (z := z) (by omega) (8 - n) 0 (by omega)
  have hm := (rdc_le (I 53) (60 * s.toNatClampNeg) (nI z) (8 - n) 0).2
  rw [hc] at q1 q3 q4 q7
  generalize rdc (I 53) (60 * s.toNatClampNeg) (nI z) (8 - n) 0 = m at *
  rw [p1, p2, p3, q1]
  refine ⟨rfl, J_new (KE h.1 (fun j a b c => ?_) (fun j a b c d => ?_) ?_ (fun i a b => ?_) (fun i a => ?_) ⟨?_, ?_, fun e he => ?_⟩ ?_) rfl rfl⟩
  · rw [va_ne c, q2 j a b]
  · rw [zu_ne d]
    unfold x_forg
    rw [zu_ne a, zu_ne c, q5 j b]
  · show F1 0 9 = _
    rw [q5 0 (by decide)]
  · show F1 8 i = _
    rw [q6 i a b]
  · rw [zu_eq, pk_un a]
    show F1 50 i = _
    rw [q5 50 (by decide)]
  · rw [F_ev]
    exact q7
  · show vp_in (F1 8 9) 9
    rw [q7]
    exact vp_in_nI (by omega) (by decide)
  · have he : e < (F1 8 9).toNatClampNeg := he
    rw [q7, nI_clamp (by omega)] at he
    rw [va_ne (show ¬ (15 : Nat) = 60 by decide), va_ne (show ¬ (16 : Nat) = 60 by decide), va_eq, q3, q4, i60]
    unfold rdr rdm
    by_cases hen : n ≤ e
    · have := hsz (e - n) (by omega) (by omega)
      rw [if_pos (by omega), if_pos (by omega), if_pos (by omega), if_pos (by omega), w7 _ (by omega), w7 _ (by omega)]
      constructor <;> congr 1 <;> omega
    · rw [if_neg (by omega), if_neg (by omega), if_neg (by omega), if_neg (by omega)]
      refine e3 e ?_
      rw [en, nI_clamp (by omega)]
      omega
  · show F1 8 12 = x_al F1
    exact q8
/-! sights -/
theorem JPC_fr {I F I' F' : zI} (h : JP I F ∧ JC I F) (a : ∀ j, j ≤ 35 → I' j = I j) (b : F' 17 = F 17) (c : F' 8 = F 8) (d : F' 0 5 = F 0 5) : JP I' F' ∧ JC I' F' := by
  have e : hl I' F' = hl I F := hl_eq (fun j _ hj => a j (by omega)) c
  refine ⟨?_, ?_⟩
  · have h2 := h.1
    unfold JP getC at h2 ⊢
    rw [e, b]
    simp only [a, Nat.reduceLeDiff, Nat.reduceAdd] at *
    exact h2
  · have h3 := h.2
    unfold JC at h3 ⊢
    rw [e, d, a 35 (by omega)]
    exact h3
theorem KS {I F I' F' : zI} (h : J I F) (r1 : ∀ j, ¬ (37 ≤ j ∧ j ≤ 39) → ¬ j = 75 → I' j = I j) (r2 : ∀ j, ¬ j = 36 → ¬ j = 50 → F' j = F j) (r5 : ∀ i, ¬ i = 33 → F' 50 i = F 50 i) (e : JS I' F') : J I' F' := by
  obtain ⟨⟨h1, h2, h3, h4, h5, h6⟩, h7⟩ := h
  have t := TH_fr ⟨h1, h2⟩ (fun j hj => r1 j (by omega) (by omega)) (fun j a b => r2 j (by omega) (by omega)) (by rw [r2 8 (by decide) (by decide)]) (by rw [r2 8 (by decide) (by decide)])
  refine ⟨⟨t.1, t.2, ?_, e, ?_, ?_⟩, ?_⟩
  · unfold JE at h3 ⊢
    rw [r2 8 (by decide) (by decide), r5 13 (by decide), r1 15 (by omega) (by omega), r1 16 (by omega) (by omega), r1 60 (by omega) (by omega)]
    exact h3
  · exact JW_fr h5 (fun s hs => ⟨r2 _ (by omega) (by omega), r1 _ (by omega) (by omega)⟩) (r1 51 (by omega) (by omega)) (r1 52 (by omega) (by omega)) (r1 53 (by omega) (by omega))
  · unfold JL x_al at h6 ⊢
    rw [r2 0 (by decide) (by decide), r2 8 (by decide) (by decide), r5 4 (by decide), r5 15 (by decide), r5 16 (by decide)]
    exact h6
  · exact JPC_fr h7 (fun j hj => r1 j (by omega) (by omega)) (r2 17 (by decide) (by decide)) (r2 8 (by decide) (by decide)) (by rw [r2 0 (by decide) (by decide)])
theorem u_forget {I F : zI} (h : J I F) : F 36 0 = (zu2 F 36 0 0) 50 33 ∧ J I (zu2 (zu2 F 36 0 0) 50 33 0) := by
  refine ⟨h.1.2.2.2.1.1, KS h (fun _ _ _ => rfl) (fun j a b => by rw [zu_ne b, zu_ne a]) (fun i hi => ?_) ⟨rfl, ?_, fun i hi => ?_⟩⟩
  · rw [zu_eq, pk_un hi]; rfl
  · show vp_in 0 9
    exact vp_in_nI (n := 0) (by decide) (by decide)
  · have hi : i < (0 : Int32).toNatClampNeg := hi
    exact absurd hi (by show ¬ i < 0; omega)
theorem u_seen {I F : zI} (h : J I F) (d p g : Int32) : (x_seen d p g I F).1 = (m_seen d p g (x_seen d p g I F).2.1 (x_seen d p g I F).2.2).1 ∧ J (m_seen d p g (x_seen d p g I F).2.1 (x_seen d p g I F).2.2).2.1 (m_seen d p g (x_seen d p g I F).2.1 (x_seen d p g I F).2.2).2.2 := by
  obtain ⟨e1, e2, e3⟩ := h.1.2.2.2.1
  by_cases hc : (0 ≤ d ∧ d < 24) ∧ (0 ≤ p ∧ p < 8) ∧ (0 ≤ g ∧ g < 10)
  · by_cases h8 : F 36 0 = 8
    · have x1 : x_seen d p g I F = (-4, I, F) := (if_pos hc).trans (if_pos h8)
      rw [x1]
      have x2 : m_seen d p g I F = (-4, I, F) := (if_pos hc).trans (if_pos (e1.symm.trans h8))
      rw [x2]
      exact ⟨rfl, h⟩
    · obtain ⟨n, hn, en⟩ := vp_in_of (vp_pred e2 h8) (by decide)
      have dv : vp_in d 24 := by rw [← vp_iff (by decide)]; exact hc.1
      have pv : vp_in p 8 := by rw [← vp_iff (by decide)]; exact hc.2.1
      have x1 : x_seen d p g I F = (F 36 0 + 1, zu2 (zu2 (zu2 I 37 (F 36 0).toNatClampNeg d) 38 (F 36 0).toNatClampNeg p) 39 (F 36 0).toNatClampNeg g, zu2 F 36 0 (F 36 0 + 1)) := (if_pos hc).trans (if_neg h8)
      rw [en, nI_clamp (by omega), nI_1] at x1
      rw [x1]
      have x2 : m_seen d p g (zu2 (zu2 (zu2 I 37 n d) 38 n p) 39 n g) (zu2 F 36 0 (nI (n + 1))) = (F 50 33 + 1, zu2 (zu2 (zu2 (zu2 (zu2 (zu2 I 37 n d) 38 n p) 39 n g) 75 (3 * (F 50 33).toNatClampNeg) d) 75 (3 * (F 50 33).toNatClampNeg + 1) p) 75 (3 * (F 50 33).toNatClampNeg + 2) g, zu2 (zu2 F 36 0 (nI (n + 1))) 50 33 (F 50 33 + 1)) := (if_pos hc).trans (if_neg (fun z => h8 (e1.trans z)))
      rw [← e1, en, nI_clamp (by omega), nI_1] at x2
      dsimp only
      rw [x2]
      refine ⟨rfl, KS h (fun j a b => ?_) (fun j a b => ?_) (fun i hi => ?_) ⟨rfl, ?_, fun i hi => ?_⟩⟩
      · dsimp only
        rw [zu_ne b, zu_ne b, zu_ne b, zu_ne (by omega), zu_ne (by omega), zu_ne (by omega)]
      · dsimp only
        rw [zu_ne b, zu_ne a]
      · dsimp only
        rw [zu_eq, pk_un hi]
        rfl
      · show vp_in (nI (n + 1)) 9
        exact vp_in_nI (by omega) (by decide)
      · have hi : i < (nI (n + 1)).toNatClampNeg := hi
        rw [nI_clamp (by omega)] at hi
        show upd (I 37) n d i = upd (upd (upd (I 75) (3 * n) d) (3 * n + 1) p) (3 * n + 2) g (3 * i) ∧ upd (I 38) n p i = upd (upd (upd (I 75) (3 * n) d) (3 * n + 1) p) (3 * n + 2) g (3 * i + 1) ∧ upd (I 39) n g i = upd (upd (upd (I 75) (3 * n) d) (3 * n + 1) p) (3 * n + 2) g (3 * i + 2) ∧ vp_in (upd (I 37) n d i) 24 ∧ vp_in (upd (I 38) n p i) 8
        by_cases hen : i = n
        · subst hen
          rw [pk_us, pk_us, pk_us, pk_un (by omega), pk_un (by omega), pk_us, pk_un (by omega), pk_us, pk_us]
          exact ⟨rfl, rfl, rfl, dv, pv⟩
        · rw [pk_un hen, pk_un hen, pk_un hen]
          simp only [pk_un (show ¬ 3 * i = 3 * n + 2 by omega), pk_un (show ¬ 3 * i = 3 * n + 1 by omega), pk_un (show ¬ 3 * i = 3 * n by omega), pk_un (show ¬ 3 * i + 1 = 3 * n + 2 by omega), pk_un (show ¬ 3 * i + 1 = 3 * n + 1 by omega), pk_un (show ¬ 3 * i + 1 = 3 * n by omega), pk_un (show ¬ 3 * i + 2 = 3 * n + 2 by omega), pk_un (show ¬ 3 * i + 2 = 3 * n + 1 by omega), pk_un (show ¬ 3 * i + 2 = 3 * n by omega)]
          refine e3 i ?_
          rw [en, nI_clamp (by omega)]
          omega
  · have x1 : x_seen d p g I F = (-2, I, F) := if_neg hc
    rw [x1]
    have x2 : m_seen d p g I F = (-2, I, F) := if_neg hc
    rw [x2]
    exact ⟨rfl, h⟩
