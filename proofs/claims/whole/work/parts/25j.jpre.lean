/-! what the reference's updates ask -/
theorem up_type {I F : zI} (h : J I F) (x b : Int32) : mtok (x_type x b I F).2.1 := by
  have e : (x_type x b I F).2.1 56 = I 56 := by
    unfold x_type
    split
    · next c =>
      rcases w3_or c.1 with rfl | rfl | rfl <;> split <;> rfl
    · rfl
  unfold mtok
  rw [e]
  exact K_t h.1
theorem J_13 {I F : zI} (h : J I F) : vp_in (F 50 13) 9 := by rw [← h.1.2.2.1.1]; exact h.1.2.2.1.2.1
theorem up_event {I F : zI} (h : J I F) (a b : Int32) : vp_in ((x_event a b I F).2.2 50 13) 9 := by
  have e : (x_event a b I F).2.2 50 = F 50 := by
    unfold x_event
    split
    · split <;> rfl
    · rfl
  rw [e]
  exact J_13 h
theorem x_rd_50 (o : Nat) : ∀ r c I F, (x_rd o r c I F).2.2 50 = F 50 := by
  intro r
  induction r with
  | zero => exact fun _ _ _ => rfl
  | succ r ih =>
    intro c I F
    simp only [x_rd]
    split
    · rfl
    · split
      · rw [ih]; rfl
      · rfl
theorem up_read {I F : zI} (h : J I F) (s : Int32) : vp_in ((x_read s I F).2.2 50 13) 9 := by
  have e : (x_read s I F).2.2 50 = F 50 := by
    unfold x_read
    split
    · split
      · rfl
      · exact x_rd_50 _ _ _ _ _
    · rfl
  rw [e]
  exact J_13 h
theorem up_seen {I F : zI} (h : J I F) (d p g : Int32) : vp_in ((x_seen d p g I F).2.2 50 33) 9 := by
  have e : (x_seen d p g I F).2.2 50 = F 50 := by
    unfold x_seen
    split
    · split <;> rfl
    · rfl
  rw [e, ← h.1.2.2.2.1.1]
  exact h.1.2.2.2.1.2.1
theorem z_sn52 {s : Int32} (h : 0 ≤ s ∧ s < 4) : ¬ 52 = z_sn s + 1 := by
  have sv : vp_in s 4 := by rw [← vp_iff (by decide)]; exact h
  have := (zn_of sv (by decide)).2
  rw [z_snn]
  omega
theorem up_lay {I F : zI} (h : J I F) (s f i v : Int32) : msh (x_lay s f i v I F).2.1 := by
  have e : (x_lay s f i v I F).2.1 52 = I 52 := by
    unfold x_lay
    split
    · next c =>
      split
      · exact zu_ne (z_sn52 c.1)
      · rfl
    · rfl
  intro u hu
  rw [e]
  exact J_msh h u hu
theorem up_get {I F : zI} (h : J I F) (s f i : Int32) : msh (x_get s f i I F).2.1 := by
  have e : (x_get s f i I F).2.1 = I := by
    unfold x_get
    split
    · split <;> rfl
    · rfl
  rw [e]
  exact J_msh h
theorem up_copy {I F : zI} (h : J I F) (s i t j m : Int32) : msh (x_copy s i t j m I F).2.1 := by
  have e : (x_copy s i t j m I F).2.1 52 = I 52 := by
    unfold x_copy
    split
    · next c =>
      split
      · rfl
      · split
        · rfl
        · split
          · exact va_ne (z_sn52 c.2)
          · rfl
    · rfl
  intro u hu
  rw [e]
  exact J_msh h u hu
theorem D_cong {H : zH} {I F I' F' : zI} (g : XS I F I' F') : D_all H I' F' = D_all H I F := by
  have e55 : I' 55 = I 55 := g.1 55 (by omega) (by omega)
  have e56 : I' 56 = I 56 := g.1 56 (by omega) (by omega)
  have e75 : I' 75 = I 75 := g.1 75 (by omega) (by omega)
  have e50 : F' 50 = F 50 := g.2.1 50 (by decide) (by decide) (by decide)
  have b3 : b_32 I' = b_32 I := by unfold b_32; rw [e55]
  have b6 : b_64 I' = b_64 I := by unfold b_64; rw [e55]
  have f0 : fa_0 I' = fa_0 I := by unfold fa_0; rw [e55, e56]
  have f1 : fa_1 I' = fa_1 I := by unfold fa_1; rw [b3, e56]
  have f2 : fa_2 I' = fa_2 I := by unfold fa_2; rw [b6, e56]
  have n2 : nc_ I' = nc_ I := by unfold nc_; rw [f2, e56]
  have a1 : A_ft I' = A_ft I := by funext t; unfold A_ft; rw [f0, f1, f2]
  have a2 : A_count H I' F' = A_count H I F := by funext w; unfold A_count; rw [n2, e56, e50]
  unfold D_all
  rw [e75, e50, a1, a2]
theorem K_flt2 {I F : zI} (h : K I F) (x : Int32) : (if 0 ≤ x ∧ x < 3 then F (z_tn x) 4 else -2) = A_fault I x := by
  unfold A_fault
  by_cases c : 0 ≤ x ∧ x < 3
  · rw [if_pos c, if_pos c, K_flt h x c]
  · rw [if_neg c, if_neg c]
