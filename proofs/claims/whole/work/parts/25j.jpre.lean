/-! what the reference's updates ask -/
theorem up_type {I F : zI} (h : J I F) (x b : Int32) : mtok (x_type x b I F).2.1 := by
  have e : (x_type x b I F).2.1 56 = I 56 := by
    unfold x_type
    split
    · next c =>
      rcases w3_or c.1 with rfl | rfl | rfl <;> split <;> rfl
    · rfl
  unfold mtok
  rw [e]
  exact K_t h.1
theorem J_13 {I F : zI} (h : J I F) : vp_in (F 50 13) 9 := by rw [← h.1.2.2.1.1]; exact h.1.2.2.1.2.1
theorem up_event {I F : zI} (h : J I F) (a b : Int32) : vp_in ((x_event a b I F).2.2 50 13) 9 := by
  have e : (x_event a b I F).2.2 50 = F 50 := by
    unfold x_event
    split
    · split <;> rfl
    · rfl
  rw [e]
  exact J_13 h
theorem x_rd_50 (o : Nat) : ∀ r c I F, (x_rd o r c I F).2.2 50 = F 50 := by
  intro r
  induction r with
  | zero => exact fun _ _ _ => rfl
  | succ r ih =>
    intro c I F
    simp only [x_rd]
    split
    · rfl
    · split
      · rw [ih]; rfl
      · rfl
theorem up_read {I F : zI} (h : J I F) (s : Int32) : vp_in ((x_read s I F).2.2 50 13) 9 := by
  have e : (x_read s I F).2.2 50 = F 50 := by
    unfold x_read
    split
    · split
      · rfl
      · exact x_rd_50 _ _ _ _ _
    · rfl
  rw [e]
  exact J_13 h
theorem up_seen {I F : zI} (h : J I F) (d p g : Int32) : vp_in ((x_seen d p g I F).2.2 50 33) 9 := by
  have e : (x_seen d p g I F).2.2 50 = F 50 := by
    unfold x_seen
    split
    · split <;> rfl
    · rfl
  rw [e, ← h.1.2.2.2.1.1]
  exact h.1.2.2.2.1.2.1
theorem z_sn52 {s : Int32} (h : 0 ≤ s ∧ s < 4) : ¬ 52 = z_sn s + 1 := by
  have sv : vp_in s 4 := by rw [← vp_iff (by decide)]; exact h
  have := (zn_of sv (by decide)).2
  rw [z_snn]
  omega
theorem up_lay {I F : zI} (h : J I F) (s f i v : Int32) : msh (x_lay s f i v I F).2.1 := by
  have e : (x_lay s f i v I F).2.1 52 = I 52 := by
    unfold x_lay
    split
    · next c =>
      split
      · exact zu_ne (z_sn52 c.1)
      · rfl
    · rfl
  intro u hu
  rw [e]
  exact J_msh h u hu
theorem up_get {I F : zI} (h : J I F) (s f i : Int32) : msh (x_get s f i I F).2.1 := by
  have e : (x_get s f i I F).2.1 = I := by
    unfold x_get
    split
    · split <;> rfl
    · rfl
  rw [e]
  exact J_msh h
theorem up_copy {I F : zI} (h : J I F) (s i t j m : Int32) : msh (x_copy s i t j m I F).2.1 := by
  have e : (x_copy s i t j m I F).2.1 52 = I 52 := by
    unfold x_copy
    split
    · next c =>
      split
      · rfl
      · split
        · rfl
        · split
          · exact va_ne (z_sn52 c.2)
          · rfl
    · rfl
  intro u hu
  rw [e]
  exact J_msh h u hu
