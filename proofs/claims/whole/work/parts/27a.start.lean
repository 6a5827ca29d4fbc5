/-! the joint invariant holds of the new heap -/
theorem tq_nil {t : Nat} {b : zr} : tq_ff t b (0 : Int32).toNatClampNeg (0 : Int32).toNatClampNeg 0 0 = -1 := by
  show (if nI 0 = 0 ∨ (0 : Int32) = zsd t - 1 then (-1 : Int32) else nI 0) = -1
  exact if_pos (Or.inl rfl)
theorem J_start {I F : zI} (i14 : ∀ d, d < 24 → I 14 d = 3) (i56 : I 56 0 = 0 ∧ I 56 1 = 0 ∧ I 56 2 = 0) (i51 : ∀ s, s < 4 → I 51 s = -1) (i52 : ∀ s, s < 4 → I 52 s = 0)
    (t2 : F 2 0 = 0 ∧ F 2 1 = 3 ∧ F 2 3 = 0 ∧ F 2 4 = -1) (t4 : F 4 0 = 1 ∧ F 4 1 = 4 ∧ F 4 3 = 0 ∧ F 4 4 = -1) (t6 : F 6 0 = 2 ∧ F 6 1 = 1 ∧ F 6 3 = 0 ∧ F 6 4 = -1)
    (f8 : F 8 0 = 0 ∧ F 8 3 = 0 ∧ F 8 8 = -1 ∧ F 8 9 = 0 ∧ F 8 12 = 0) (f17 : F 17 1 = -1) (f0 : F 0 5 = 1 ∧ F 0 9 = 0) (f36 : F 36 0 = 0)
    (f50 : F 50 4 = 0 ∧ F 50 13 = 0 ∧ F 50 33 = 0 ∧ F 50 15 = 0 ∧ F 50 16 = -1) (fs : ∀ s, s < 4 → F (42 + 2 * s) 0 = -1 ∧ F (42 + 2 * s) 1 = 0) : J I F := by
  obtain ⟨a0, a1, a2⟩ := i56
  obtain ⟨b0, b1, b3, b4⟩ := t2
  obtain ⟨c0, c1, c3, c4⟩ := t4
  obtain ⟨d0, d1, d3, d4⟩ := t6
  obtain ⟨g0, g3, g8, g9, g12⟩ := f8
  obtain ⟨h5, h9⟩ := f0
  obtain ⟨k4, k13, k33, k15, k16⟩ := f50
  have e0 : fa_0 I = -1 := by unfold fa_0; rw [a0]; exact tq_nil
  have e1 : fa_1 I = -1 := by unfold fa_1; rw [a1]; exact tq_nil
  have e2 : fa_2 I = -1 := by unfold fa_2; rw [a2]; exact tq_nil
  have z : (0 : Int32).toNatClampNeg = 0 := rfl
  have n0 : np_ I = 0 := by unfold np_; rw [if_pos e0, a0, z]
  have n1 : nq_ I = 0 := by unfold nq_; rw [if_pos e1, a1, z]
  have n2 : nc_ I = 0 := by unfold nc_; rw [if_pos e2, a2, z]
  have v (m : Nat) (hm : m < 1000) : vp_in 0 (m + 1) := vp_in_nI (n := 0) (by omega) (by omega)
  refine J_new ⟨⟨⟨⟨b0, b1, by rw [b3]; exact v 23 (by decide)⟩, ⟨c0, c1, by rw [c3]; exact v 31 (by decide)⟩, ⟨d0, d1, by rw [d3]; exact v 24 (by decide)⟩⟩, by rw [b3, a0], by rw [c3, a1], by rw [d3, a2], by rw [b4, e0], by rw [c4, e1], by rw [d4, e2], fun j hj => ?_, fun j hj => ?_, fun j hj => ?_⟩, ⟨⟨?_, fun j hj => ?_⟩, ⟨?_, fun j hj => ?_⟩, fun d hd => ?_⟩, ⟨by rw [g9, k13], by rw [g9]; exact v 8 (by decide), fun e he => ?_⟩, ⟨by rw [f36, k33], by rw [f36]; exact v 8 (by decide), fun e he => ?_⟩, fun s hs => ?_, by rw [h9, k4], k15, k16, g8, ?_⟩ f17 h5
  · rw [a0, z] at hj; omega
  · rw [a1, z] at hj; omega
  · rw [a2, z] at hj; omega
  · rw [g0, n0]; rfl
  · omega
  · rw [g3, n1]; rfl
  · omega
  · rw [i14 d hd, if_neg (by omega)]
  · rw [g9, z] at he; omega
  · rw [f36, z] at he; omega
  · obtain ⟨s0, s1⟩ := fs s hs
    refine ⟨by rw [s0, i51 s hs], Or.inl (i51 s hs), by rw [s1]; exact v 60 (by decide), by rw [i52 s hs]; exact v 60 (by decide), fun c => absurd (i51 s hs) c⟩
  · unfold x_al
    rw [g12, g9]
    decide
