/-! the joint invariant: events, sights -/
theorem TH_fr {I F I' F' : zI} (h : JT I F ∧ (JH1 I F ∧ JH2 I F ∧ JH3 I)) (a : ∀ j, (j < 15 ∨ j = 55 ∨ j = 56) → I' j = I j) (b : ∀ j, j < 8 → ¬ j = 0 → F' j = F j) (c : F' 8 0 = F 8 0) (d : F' 8 3 = F 8 3) : JT I' F' ∧ (JH1 I' F' ∧ JH2 I' F' ∧ JH3 I') := by
  have e55 : I' 55 = I 55 := a 55 (by omega)
  have e56 : I' 56 = I 56 := a 56 (by omega)
  have b3 : b_32 I' = b_32 I := by unfold b_32; rw [e55]
  have b6 : b_64 I' = b_64 I := by unfold b_64; rw [e55]
  have f0 : fa_0 I' = fa_0 I := by unfold fa_0; rw [e55, e56]
  have f1 : fa_1 I' = fa_1 I := by unfold fa_1; rw [b3, e56]
  have f2 : fa_2 I' = fa_2 I := by unfold fa_2; rw [b6, e56]
  have n0 : np_ I' = np_ I := by unfold np_; rw [f0, e56]
  have n1 : nq_ I' = nq_ I := by unfold nq_; rw [f1, e56]
  have n2 : nc_ I' = nc_ I := by unfold nc_; rw [f2, e56]
  obtain ⟨h1, h2, h3, h4⟩ := h
  refine ⟨?_, ?_, ?_, ?_⟩
  · unfold JT tok tok1 at h1 ⊢
    rw [b 2 (by omega) (by omega), b 4 (by omega) (by omega), b 6 (by omega) (by omega), e55, e56, b3, b6, f0, f1, f2, a 3 (by omega), a 5 (by omega), a 7 (by omega)]
    exact h1
  · unfold JH1 at h2 ⊢
    rw [c, n0, e55, a 9 (by omega), a 10 (by omega)]
    exact h2
  · unfold JH2 at h3 ⊢
    rw [d, n1, b3, a 11 (by omega), a 12 (by omega), a 13 (by omega)]
    exact h3
  · unfold JH3 at h4 ⊢
    rw [n2, b6, a 14 (by omega)]
    exact h4
theorem KE {I F I' F' : zI} (h : K I F) (r1 : ∀ j, ¬ j = 15 → ¬ j = 16 → ¬ j = 60 → I' j = I j) (r2 : ∀ j, ¬ j = 0 → ¬ j = 8 → ¬ j = 17 → ¬ j = 50 → F' j = F j) (r3 : F' 0 9 = F 0 9) (r4 : ∀ i, ¬ i = 9 → ¬ i = 12 → F' 8 i = F 8 i) (r5 : ∀ i, ¬ i = 13 → F' 50 i = F 50 i) (e : JE I' F') (a : F' 8 12 = x_al F') : K I' F' := by
  obtain ⟨h1, h2, h3, h4, h5, h6⟩ := h
  have t := TH_fr ⟨h1, h2⟩ (fun j hj => r1 j (by omega) (by omega) (by omega)) (fun j a b => r2 j b (by omega) (by omega) (by omega)) (r4 0 (by decide) (by decide)) (r4 3 (by decide) (by decide))
  refine ⟨t.1, t.2, e, ?_, ?_, ?_⟩
  · unfold JS at h4 ⊢
    rw [r5 33 (by decide), r2 36 (by omega) (by omega) (by omega) (by omega), r1 37 (by omega) (by omega) (by omega), r1 38 (by omega) (by omega) (by omega), r1 39 (by omega) (by omega) (by omega), r1 75 (by omega) (by omega) (by omega)]
    exact h4
  · exact JW_fr h5 (fun s hs => ⟨r2 _ (by omega) (by omega) (by omega) (by omega), r1 _ (by omega) (by omega) (by omega)⟩) (r1 51 (by omega) (by omega) (by omega)) (r1 52 (by omega) (by omega) (by omega)) (r1 53 (by omega) (by omega) (by omega))
  · obtain ⟨l1, l2, l3, l4, l5⟩ := h6
    exact ⟨by rw [r3, r5 4 (by decide)]; exact l1, (r5 15 (by decide)).trans l2, (r5 16 (by decide)).trans l3, (r4 8 (by decide) (by decide)).trans l4, a⟩
theorem w2_if {a : Int32} : (0 ≤ a ∧ a < 2) ↔ (a = 0 ∨ a = 1) := by
  rw [Int32.le_iff_toInt_le, Int32.lt_iff_toInt_lt, ← Int32.toInt_inj, ← Int32.toInt_inj]
  show (0 ≤ a.toInt ∧ a.toInt < 2) ↔ (a.toInt = 0 ∨ a.toInt = 1)
  omega
theorem u_event {I F : zI} (h : J I F) (a b : Int32) : (x_event a b I F).1 = (m_event a b (x_event a b I F).2.1 (x_event a b I F).2.2).1 ∧ J (m_event a b (x_event a b I F).2.1 (x_event a b I F).2.2).2.1 (m_event a b (x_event a b I F).2.1 (x_event a b I F).2.2).2.2 := by
  obtain ⟨e1, e2, e3⟩ := h.1.2.2.1
  by_cases hc : (a = 0 ∨ a = 1) ∧ 0 ≤ b ∧ b < 24
  · have hc' : (0 ≤ a ∧ a < 2) ∧ (0 ≤ b ∧ b < 24) := ⟨w2_if.mpr hc.1, hc.2⟩
    by_cases h8 : F 8 9 = 8
    · have x1 : x_event a b I F = (-4, I, F) := (if_pos hc).trans (if_pos h8)
      rw [x1]
      have x2 : m_event a b I F = (-4, I, F) := (if_pos hc').trans (if_pos (e1.symm.trans h8))
      rw [x2]
      exact ⟨rfl, h⟩
    · have x1 : x_event a b I F = (F 8 9 + 1, x_addI a b I F, x_forg (x_addF F)) := (if_pos hc).trans (if_neg h8)
      rw [x1]
      have x2 : m_event a b (x_addI a b I F) (x_forg (x_addF F)) = _ := (if_pos hc').trans (if_neg (fun z => h8 (e1.trans z)))
      dsimp only
      rw [x2]
      have k13 : x_forg (x_addF F) 50 13 = F 50 13 := rfl
      rw [k13]
      obtain ⟨n, hn, en⟩ := vp_in_of (vp_pred e2 h8) (by decide)
      rw [← e1, en, nI_1, nI_clamp (by omega)]
      refine ⟨rfl, J_new (KE h.1 (fun j u v w => ?_) (fun j u v w y => ?_) rfl (fun i hi hj => ?_) (fun i hi => ?_) ⟨?_, ?_, fun e he => ?_⟩ ?_) rfl rfl⟩
      · show zu2 (zu2 (zu2 (zu2 I 15 (F 8 9).toNatClampNeg a) 16 (F 8 9).toNatClampNeg b) 60 (2 * n) a) 60 (2 * n + 1) b j = _
        rw [zu_ne w, zu_ne w, zu_ne v, zu_ne u]
      · show zu2 (zu2 (zu2 (zu2 (zu2 F 8 9 (F 8 9 + 1)) 8 12 ((1 <<< ((F 8 9 + 1) &&& 31)) - 1)) 17 1 (-1)) 0 5 1) 50 13 (nI (n + 1)) j = _
        rw [zu_ne y, zu_ne u, zu_ne w, zu_ne v, zu_ne v]
      · show zu2 (zu2 F 8 9 _) 8 12 _ 8 i = _
        rw [zu_eq, pk_un hj, zu_eq, pk_un hi]
      · show zu2 _ 50 13 _ 50 i = _
        rw [zu_eq, pk_un hi]
        rfl
      · show F 8 9 + 1 = _
        rw [en, nI_1]
        rfl
      · show vp_in (F 8 9 + 1) 9
        rw [en, nI_1]
        exact vp_in_nI (by omega) (by decide)
      · have he : e < (F 8 9 + 1).toNatClampNeg := he
        rw [en, nI_1, nI_clamp (by omega)] at he
        unfold x_addI
        rw [en, nI_clamp (by omega)]
        show upd (I 15) n a e = upd (upd (I 60) (2 * n) a) (2 * n + 1) b (2 * e) ∧ upd (I 16) n b e = upd (upd (I 60) (2 * n) a) (2 * n + 1) b (2 * e + 1)
        by_cases hen : e = n
        · subst hen
          rw [pk_us, pk_us, pk_un (by omega), pk_us, pk_us]
          exact ⟨rfl, rfl⟩
        · rw [pk_un hen, pk_un hen, pk_un (by omega), pk_un (by omega), pk_un (by omega), pk_un (by omega)]
          refine e3 e ?_
          rw [en, nI_clamp (by omega)]
          omega
      · rfl
  · have x1 : x_event a b I F = (-2, I, F) := if_neg hc
    rw [x1]
    have x2 : m_event a b I F = (-2, I, F) := if_neg (fun z => hc ⟨w2_if.mp z.1, z.2⟩)
    rw [x2]
    exact ⟨rfl, h⟩
theorem u_back {I F : zI} (h : J I F) : (x_back F).1 = (m_back (x_back F).2).1 ∧ J I (m_back (x_back F).2).2 := by
  obtain ⟨e1, e2, e3⟩ := h.1.2.2.1
  by_cases h8 : F 8 9 = 0
  · have x1 : x_back F = (-3, F) := if_pos h8
    rw [x1]
    have x2 : m_back F = (-3, F) := if_pos (e1.symm.trans h8)
    rw [x2]
    exact ⟨rfl, h⟩
  · have x1 : x_back F = (F 8 9 - 1, x_forg (x_drop F)) := if_neg h8
    rw [x1]
    have x2 : m_back (x_forg (x_drop F)) = (x_forg (x_drop F) 50 13 - 1, _) := if_neg (fun z => h8 (e1.trans z))
    dsimp only
    rw [x2]
    have k13 : x_forg (x_drop F) 50 13 = F 50 13 := rfl
    rw [k13]
    obtain ⟨n, hn, en⟩ := vp_in_of e2 (by decide)
    have n0 : 0 < n := by
      refine Classical.byContradiction fun z => h8 ?_
      rw [en, show n = 0 by omega]
      rfl
    rw [← e1]
    refine ⟨rfl, J_new (KE h.1 (fun j a b c => rfl) (fun j a b c d => ?_) rfl (fun i hi hj => ?_) (fun i hi => ?_) ⟨rfl, ?_, fun e he => ?_⟩ ?_) rfl rfl⟩
    · show zu2 (zu2 (zu2 (zu2 (zu2 F 8 9 (F 8 9 - 1)) 8 12 ((1 <<< ((F 8 9 - 1) &&& 31)) - 1)) 17 1 (-1)) 0 5 1) 50 13 (F 8 9 - 1) j = _
      rw [zu_ne d, zu_ne a, zu_ne c, zu_ne b, zu_ne b]
    · show zu2 (zu2 F 8 9 _) 8 12 _ 8 i = _
      rw [zu_eq, pk_un hj, zu_eq, pk_un hi]
    · show zu2 _ 50 13 _ 50 i = _
      rw [zu_eq, pk_un hi]
      rfl
    · show vp_in (F 8 9 - 1) 9
      rw [en, nI_prd n0 (by omega)]
      exact vp_in_nI (by omega) (by decide)
    · have he : e < (F 8 9 - 1).toNatClampNeg := he
      rw [en, nI_prd n0 (by omega), nI_clamp (by omega)] at he
      refine e3 e ?_
      rw [en, nI_clamp (by omega)]
      omega
    · rfl
