/-! read -/
def rdc (it : zr) (b : Nat) (sz : Int32) : Nat → Nat → Nat
  | 0, c => c
  | r + 1, c => if sz < nI (2 * c + 2) then c else if (0 ≤ it (b + 2 * c) ∧ it (b + 2 * c) < 2) ∧ (0 ≤ it (b + 2 * c + 1) ∧ it (b + 2 * c + 1) < 24) then rdc it b sz r (c + 1) else c
theorem rdc_le (it : zr) (b : Nat) (sz : Int32) : ∀ r c, c ≤ rdc it b sz r c ∧ rdc it b sz r c ≤ c + r := by
  intro r
  induction r with
  | zero => exact fun c => ⟨Nat.le_refl _, Nat.le_refl _⟩
  | succ r ih =>
    intro c
    simp only [rdc]
    have := ih (c + 1)
    split
    · omega
    · split <;> omega
/-- the rows after read's loop -/
def rdr (it : zr) (b : Nat) (o : Nat) (n c m : Nat) (f : zr) : zr := fun e => if n + c ≤ e ∧ e < n + m then it (b + 2 * (e - n) + o) else f e
def rdm (it : zr) (b : Nat) (n c m : Nat) (f : zr) : zr := fun i => if 2 * (n + c) ≤ i ∧ i < 2 * (n + m) then it (b + (i - 2 * n)) else f i
theorem le_lt {x : Int32} {c : Nat} (h : c < 1000) : (x ≤ nI (2 * c + 1)) ↔ x < nI (2 * c + 2) := by
  have e : nI (2 * c + 2) = nI (2 * c + 1) + 1 := by rw [nI_1]
  rw [Int32.le_iff_toInt_le, Int32.lt_iff_toInt_lt, nI_toInt (by omega), nI_toInt (by omega)]
  omega
theorem x_rd_eq (o : Nat) (ho : 40 ≤ o) (n : Nat) : ∀ r c I F, r + c + n = 8 → F 8 9 = nI (n + c) → F 8 12 = x_al F →
    (x_rd o r c I F).1 = nI (rdc (I (o + 1)) 0 (F o 1) r c) ∧ (∀ j, ¬ j = 15 → ¬ j = 16 → (x_rd o r c I F).2.1 j = I j) ∧ (x_rd o r c I F).2.1 15 = rdr (I (o + 1)) 0 0 n c (rdc (I (o + 1)) 0 (F o 1) r c) (I 15) ∧ (x_rd o r c I F).2.1 16 = rdr (I (o + 1)) 0 1 n c (rdc (I (o + 1)) 0 (F o 1) r c) (I 16) ∧ (∀ j, ¬ j = 8 → (x_rd o r c I F).2.2 j = F j) ∧ (∀ i, ¬ i = 9 → ¬ i = 12 → (x_rd o r c I F).2.2 8 i = F 8 i) ∧ (x_rd o r c I F).2.2 8 9 = nI (n + rdc (I (o + 1)) 0 (F o 1) r c) ∧ (x_rd o r c I F).2.2 8 12 = x_al (x_rd o r c I F).2.2 := by
  have same : ∀ (it f : zr) (k c : Nat), rdr it 0 k n c c f = f := fun it f k c => funext fun e => if_neg (by omega)
  intro r
  induction r with
  | zero =>
    intro c I F hr h9 h12
    simp only [x_rd, rdc, same]
    exact ⟨trivial, fun _ _ _ => trivial, trivial, trivial, fun _ _ => trivial, fun _ _ _ => trivial, h9, h12⟩
  | succ r ih =>
    intro c I F hr h9 h12
    simp only [x_rd, rdc, Nat.zero_add, le_lt (show c < 1000 by omega), w2_if]
    by_cases hz : F o 1 < nI (2 * c + 2)
    · simp only [hz, if_true, same]
      exact ⟨trivial, fun _ _ _ => trivial, trivial, trivial, fun _ _ => trivial, fun _ _ _ => trivial, h9, h12⟩
    · simp only [hz, if_false]
      by_cases hw : (I (o + 1) (2 * c) = 0 ∨ I (o + 1) (2 * c) = 1) ∧ 0 ≤ I (o + 1) (2 * c + 1) ∧ I (o + 1) (2 * c + 1) < 24
      · simp only [hw, if_true, and_self]
        have q := ih (c + 1) (x_aI (I (o + 1) (2 * c)) (I (o + 1) (2 * c + 1)) I F) (x_aF F) (by omega) (by rw [aF_9, h9, nI_1]; rfl) rfl
        have i1 : x_aI (I (o + 1) (2 * c)) (I (o + 1) (2 * c + 1)) I F (o + 1) = I (o + 1) := by
          unfold x_aI
          rw [zu_ne (by omega), zu_ne (by omega)]
        have i2 : x_aF F o = F o := by
          unfold x_aF
          rw [zu_ne (by omega), zu_ne (by omega)]
        rw [i1, i2] at q
        obtain ⟨m1, m2⟩ := rdc_le (I (o + 1)) 0 (F o 1) r (c + 1)
        obtain ⟨q1, q2, q3, q4, q5, q6, q7, q8⟩ := q
        refine ⟨q1, fun j a b => ?_, ?_, ?_, fun j a => ?_, fun i a b => ?_, q7, q8⟩
        · rw [q2 j a b]
          unfold x_aI
          rw [zu_ne b, zu_ne a]
        · rw [q3]
          funext e
          unfold rdr
          by_cases he : n + (c + 1) ≤ e ∧ e < n + rdc (I (o + 1)) 0 (F o 1) r (c + 1)
          · rw [if_pos he, if_pos (by omega)]
          · rw [if_neg he]
            show upd (I 15) (F 8 9).toNatClampNeg (I (o + 1) (2 * c)) e = _
            rw [h9, nI_clamp (by omega)]
            by_cases e2 : e = n + c
            · subst e2
              rw [pk_us, if_pos (by omega), show n + c - n = c by omega, Nat.zero_add]
              rfl
            · rw [pk_un e2, if_neg (by omega)]
        · rw [q4]
          funext e
          unfold rdr
          by_cases he : n + (c + 1) ≤ e ∧ e < n + rdc (I (o + 1)) 0 (F o 1) r (c + 1)
          · rw [if_pos he, if_pos (by omega)]
          · rw [if_neg he]
            show upd (I 16) (F 8 9).toNatClampNeg (I (o + 1) (2 * c + 1)) e = _
            rw [h9, nI_clamp (by omega)]
            by_cases e2 : e = n + c
            · subst e2
              rw [pk_us, if_pos (by omega), show n + c - n = c by omega, Nat.zero_add]
            · rw [pk_un e2, if_neg (by omega)]
        · rw [q5 j a]
          unfold x_aF
          rw [zu_ne a, zu_ne a]
        · rw [q6 i a b]
          unfold x_aF
          rw [zu_eq, pk_un b, zu_eq, pk_un a]
      · simp only [hw, if_false, same]
        exact ⟨trivial, fun _ _ _ => trivial, trivial, trivial, fun _ _ => trivial, fun _ _ _ => trivial, h9, h12⟩
theorem m_rd_eq (s : Nat) (n : Nat) : ∀ r c I F, r + c + n = 8 → F 50 13 = nI (n + c) →
    (m_rd s r c I F).1 = nI (rdc (I 53) (60 * s) (I 52 s) r c) ∧ (m_rd s r c I F).2.1 = va_up I 60 (rdm (I 53) (60 * s) n c (rdc (I 53) (60 * s) (I 52 s) r c) (I 60)) ∧ (m_rd s r c I F).2.2 = zu2 F 50 13 (nI (n + rdc (I 53) (60 * s) (I 52 s) r c)) := by
  have same : ∀ (it f : zr) (b c : Nat), rdm it b n c c f = f := fun it f b c => funext fun e => if_neg (by omega)
  have sf : ∀ (F : zI) (x : Int32), F 50 13 = x → zu2 F 50 13 x = F := fun F x h => by
    subst h
    funext a b
    unfold zu2 va_up upd
    by_cases h1 : a = 50
    · subst h1
      by_cases h2 : b = 13
      · subst h2; simp
      · simp [h2]
    · simp [h1]
  intro r
  induction r with
  | zero =>
    intro c I F hr h9
    simp only [m_rd, rdc, same, va_self, sf F _ h9, and_self]
  | succ r ih =>
    intro c I F hr h9
    simp only [m_rd, rdc]
    by_cases hz : I 52 s < nI (2 * c + 2)
    · simp only [hz, if_true, same, va_self, sf F _ h9, and_self]
    · simp only [hz, if_false]
      by_cases hw : (0 ≤ I 53 (60 * s + 2 * c) ∧ I 53 (60 * s + 2 * c) < 2) ∧ (0 ≤ I 53 (60 * s + 2 * c + 1) ∧ I 53 (60 * s + 2 * c + 1) < 24)
      · rw [if_pos hw, if_pos hw]
        have h8 : ¬ F 50 13 = 8 := by
          rw [h9]
          show ¬ nI (n + c) = nI 8
          intro z
          have := congrArg Int32.toNatClampNeg z
          rw [nI_clamp (by omega), nI_clamp (by omega)] at this
          omega
        have e : m_event (I 53 (60 * s + 2 * c)) (I 53 (60 * s + 2 * c + 1)) I F = _ := (if_pos hw).trans (if_neg h8)
        rw [h9, nI_clamp (by omega), nI_1] at e
        rw [e]
        dsimp only
        obtain ⟨q1, q2, q3⟩ := ih (c + 1) (zu2 (zu2 I 60 (2 * (n + c)) (I 53 (60 * s + 2 * c))) 60 (2 * (n + c) + 1) (I 53 (60 * s + 2 * c + 1))) (zu2 F 50 13 (nI (n + c + 1))) (by omega) (by rw [F_ev]; rfl)
        rw [show zu2 (zu2 I 60 (2 * (n + c)) (I 53 (60 * s + 2 * c))) 60 (2 * (n + c) + 1) (I 53 (60 * s + 2 * c + 1)) 53 = I 53 from rfl, show zu2 (zu2 I 60 (2 * (n + c)) (I 53 (60 * s + 2 * c))) 60 (2 * (n + c) + 1) (I 53 (60 * s + 2 * c + 1)) 52 = I 52 from rfl] at q1 q2 q3
        obtain ⟨m1, m2⟩ := rdc_le (I 53) (60 * s) (I 52 s) r (c + 1)
        refine ⟨q1, ?_, ?_⟩
        · rw [q2]
          have : rdm (I 53) (60 * s) n (c + 1) (rdc (I 53) (60 * s) (I 52 s) r (c + 1)) (upd (upd (I 60) (2 * (n + c)) (I 53 (60 * s + 2 * c))) (2 * (n + c) + 1) (I 53 (60 * s + 2 * c + 1))) = rdm (I 53) (60 * s) n c (rdc (I 53) (60 * s) (I 52 s) r (c + 1)) (I 60) := by
            funext i
            unfold rdm
            by_cases hi : 2 * (n + (c + 1)) ≤ i ∧ i < 2 * (n + rdc (I 53) (60 * s) (I 52 s) r (c + 1))
            · rw [if_pos hi, if_pos (by omega)]
            · rw [if_neg hi]
              by_cases e1 : i = 2 * (n + c) + 1
              · subst e1
                rw [pk_us, if_pos (by omega)]
                congr 1
                omega
              · by_cases e2 : i = 2 * (n + c)
                · subst e2
                  rw [pk_un e1, pk_us, if_pos (by omega)]
                  congr 1
                  omega
                · rw [pk_un e1, pk_un e2, if_neg (by omega)]
          rw [← this, zu_va, zu_va, va_eq, va_va, va_eq, va_va]
        · rw [q3, zu_zu]
      · simp only [hw, if_false, same, va_self, sf F _ h9, and_self]
