/-! cells from a place on -/
def zap (sh : Nat → zShp) (o : Nat) (l : List zShp) : Nat → zShp := fun k => if k < o then sh k else (l[k - o]?).getD (sh k)
theorem zap_at {sh : Nat → zShp} {o r : Nat} {l : List zShp} {x : zShp} (j : Nat) (h : l[j]? = some x) (hr : r = o + j) : zap sh o l r = x := by
  subst hr
  unfold zap
  rw [if_neg (by omega), Nat.add_sub_cancel_left, h]
  rfl
theorem zap_one {sh : Nat → zShp} {o : Nat} {x : zShp} (h : sh o = x) : sh = zap sh o [x] := by
  funext k
  unfold zap
  by_cases c : k < o
  · rw [if_pos c]
  · rw [if_neg c]
    by_cases d : k = o
    · subst d
      rw [Nat.sub_self]
      exact h
    · rw [List.getElem?_eq_none (by simp only [List.length_cons, List.length_nil]; omega)]
      rfl
theorem zap_new {sh : Nat → zShp} {o r : Nat} {l l2 : List zShp} {x : zShp} (hr : r = o + l.length) (h2 : l2 = l ++ [x]) : va_up (zap sh o l) r x = zap sh o l2 := by
  subst hr
  subst h2
  funext k
  unfold va_up zap
  by_cases c : k = o + l.length
  · subst c
    rw [if_pos rfl, if_neg (by omega), Nat.add_sub_cancel_left, List.getElem?_append_right (Nat.le_refl _), Nat.sub_self]
    rfl
  · rw [if_neg c]
    by_cases d : k < o
    · rw [if_pos d, if_pos d]
    · rw [if_neg d, if_neg d]
      by_cases e : k - o < l.length
      · rw [List.getElem?_append_left e]
      · rw [List.getElem?_eq_none (by omega), List.getElem?_eq_none (by simp only [List.length_append, List.length_cons, List.length_nil]; omega)]
theorem zap_set {sh : Nat → zShp} {o r : Nat} {l l2 : List zShp} {x : zShp} (j : Nat) (hj : j < l.length) (hr : r = o + j) (h2 : l2 = l.set j x) : va_up (zap sh o l) r x = zap sh o l2 := by
  subst hr
  subst h2
  funext k
  unfold va_up zap
  by_cases c : k = o + j
  · subst c
    rw [if_pos rfl, if_neg (by omega), Nat.add_sub_cancel_left, List.getElem?_set_self hj]
    rfl
  · rw [if_neg c]
    by_cases d : k < o
    · rw [if_pos d, if_pos d]
    · rw [if_neg d, if_neg d, List.getElem?_set_ne (by omega)]
theorem zap_zap {sh : Nat → zShp} {o : Nat} {l l1 l2 : List zShp} (h1 : o ≤ l.length) (h2 : l.length ≤ o + l1.length) (h3 : l2 = l.take o ++ l1) : zap (zap sh 0 l) o l1 = zap sh 0 l2 := by
  subst h3
  funext k
  unfold zap
  have z : ¬ k < 0 := Nat.not_lt_zero k
  rw [if_neg z, if_neg z, Nat.sub_zero]
  have hl : (l.take o).length = o := by rw [List.length_take]; omega
  by_cases c : k < o
  · rw [if_pos c, List.getElem?_append_left (by omega), List.getElem?_take_of_lt c]
  · rw [if_neg c, List.getElem?_append_right (by omega), hl]
    by_cases d : k < l.length
    · rw [List.getElem?_eq_getElem (l := l1) (i := k - o) (by omega)]
      rfl
    · rw [List.getElem?_eq_none (l := l) (by omega)]
      rfl
theorem zcn_at {sh : Nat → zShp} {n r ci : Nat} {ks : List (Option (Option Nat))} (hr : r < n) (h : sh r = .inl (ci, ks)) : zcn sh n r = some ci := by
  unfold zcn
  rw [if_pos hr, h]
theorem zas_at {sh : Nat → zShp} {n r m : Nat} (hr : r < n) (h : sh r = .inr (.inl m)) : zas sh n r = some m := by
  unfold zas
  rw [if_pos hr, h]
theorem zrs_at {sh : Nat → zShp} {n r : Nat} {q : Nat × List (Option Nat)} (hr : r < n) (h : sh r = .inr (.inr q)) : zrs sh n r = some q := by
  unfold zrs
  rw [if_pos hr, h]
theorem zsk_at {x : zShp} {t ci : Nat} {ks : List (Option (Option Nat))} (h : x = .inl (ci, ks)) (c : (t = 0 ∧ ci = 4) ∨ (t = 1 ∧ ci = 2)) : zsk x t = True := by
  subst h
  exact eq_true c
theorem zG_sh {E : zE} {c : Nat} {cc : ByteArray} {nL : Nat} {rt : Option FieldType} {ini : Bool} {RC RS k mc ms : Nat} {Post : zPo} {pc : Nat} {L : List (Option Value)} {st : List Value} {sh sh2 : Nat → zShp} {n : Nat} {I F : zI} {cs zs : Nat} (h : ∀ q, q < n → sh q = sh2 q) (k0 : zG E c cc nL rt ini RC RS k mc ms Post pc L st sh2 n I F cs zs) : zG E c cc nL rt ini RC RS k mc ms Post pc L st sh n I F cs zs := by
  have e : zws E sh n I F = zws E sh2 n I F := by
    unfold zws
    exact List.map_congr_left fun q hq => by rw [h q (List.mem_range.mp hq)]
  intro p e1 s m args below meth cd R hR X TB H lo ls hI hv hn
  refine k0 p e1 s m args below meth cd R hR X TB H lo ls ⟨⟨?_, hI.1.2⟩, hI.2⟩ hv hn
  rw [← e]
  exact hI.1.1
theorem zdl_0 : (zdk 0).length = 14 := by decide +kernel
theorem zdl_1 : (zdk 1).length = 13 := by decide +kernel
theorem zdl_2 : (zdk 2).length = 3 := by decide +kernel
theorem zdl_3 : (zdk 3).length = 4 := by decide +kernel
theorem zdl_4 : (zdk 4).length = 5 := by decide +kernel
theorem zdl_5 : (zdk 5).length = 10 := by decide +kernel
theorem zdl_6 : (zdk 6).length = 37 := by decide +kernel
theorem ze_i2 {sh : Nat → zShp} {o : Nat} (hsh : sh o = .inl (2, zdk 2)) : va_up (va_up (sh) (o + 1) (.inr (.inl 60))) o (.inl (2, (zdk 2).set 2 (some (some (o + 1))))) = zap sh o [.inl (2, (zdk 2).set 2 (some (some (o + 1)))), .inr (.inl 60)] := by
  have e0 : sh = zap sh o [.inl (2, zdk 2)] := zap_one hsh
  have e1 := (congrArg (fun s => va_up s (o + 1) (.inr (.inl 60))) e0).trans (zap_new (l := [.inl (2, zdk 2)]) (l2 := [.inl (2, zdk 2), .inr (.inl 60)]) rfl rfl)
  have e2 := (congrArg (fun s => va_up s (o) (.inl (2, (zdk 2).set 2 (some (some (o + 1)))))) e1).trans (zap_set (l := [.inl (2, zdk 2), .inr (.inl 60)]) (l2 := [.inl (2, (zdk 2).set 2 (some (some (o + 1)))), .inr (.inl 60)]) 0 (Nat.zero_lt_succ _) rfl rfl)
  exact e2
noncomputable def sp_i2 : zSp := fun as sh n I F => match as with
  | [.ref o] => (n = o + 1 ∧ o + 2 ≤ 1000 ∧ sh o = .inl (2, zdk 2), none, zap sh o [.inl (2, (zdk 2).set 2 (some (some (o + 1)))), .inr (.inl 60)], n + 1, va_up I (o + 1) (fun _ => 0), zu2 (zu2 F o 0 (-1)) o 1 0)
  | _ => (False, none, sh, n, I, F)
theorem sl_i2 (o : Nat) {sh : Nat → zShp} {n : Nat} {I F : zI} : sp_i2 [.ref o] sh n I F = (n = o + 1 ∧ o + 2 ≤ 1000 ∧ sh o = .inl (2, zdk 2), none, zap sh o [.inl (2, (zdk 2).set 2 (some (some (o + 1)))), .inr (.inl 60)], n + 1, va_up I (o + 1) (fun _ => 0), zu2 (zu2 F o 0 (-1)) o 1 0) := rfl
theorem v_i2 (E : zE) (k : Nat) : zV E (k + 1) 201 1 60 sp_i2 := by
  intro as sh n I F h
  have ha : ∃ o, as = [.ref o] := by
    unfold sp_i2 at h
    split at h
    · exact ⟨_, rfl⟩
    · exact h.elim
  obtain ⟨o, rfl⟩ := ha
  have h : n = o + 1 ∧ o + 2 ≤ 1000 ∧ sh o = .inl (2, zdk 2) := h
  obtain ⟨rfl, h1, h2⟩ := h
  exact zOk_of 2 cX2_init 1 none zm_201 (by rw [zi_201]; rfl) (by rw [zi_201]) true (fun _ => by rw [zi_201]; rfl) (Nat.le_of_ble_eq_true rfl) (g_i2 (k := k) o h1 h2 ⟨rfl, ze_i2 h2, rfl, rfl, rfl⟩)
theorem ze_i3 {sh : Nat → zShp} {o : Nat} (hsh : sh o = .inl (3, zdk 3)) : va_up (va_up (va_up (va_up (va_up (va_up (sh) (o + 1) (.inr (.inl 8))) o (.inl (3, (zdk 3).set 1 (some (some (o + 1)))))) (o + 2) (.inr (.inl 8))) o (.inl (3, ((zdk 3).set 1 (some (some (o + 1)))).set 2 (some (some (o + 2)))))) (o + 3) (.inr (.inl 8))) o (.inl (3, (((zdk 3).set 1 (some (some (o + 1)))).set 2 (some (some (o + 2)))).set 3 (some (some (o + 3))))) = zap sh o [.inl (3, (((zdk 3).set 1 (some (some (o + 1)))).set 2 (some (some (o + 2)))).set 3 (some (some (o + 3)))), .inr (.inl 8), .inr (.inl 8), .inr (.inl 8)] := by
  have e0 : sh = zap sh o [.inl (3, zdk 3)] := zap_one hsh
  have e1 := (congrArg (fun s => va_up s (o + 1) (.inr (.inl 8))) e0).trans (zap_new (l := [.inl (3, zdk 3)]) (l2 := [.inl (3, zdk 3), .inr (.inl 8)]) rfl rfl)
  have e2 := (congrArg (fun s => va_up s (o) (.inl (3, (zdk 3).set 1 (some (some (o + 1)))))) e1).trans (zap_set (l := [.inl (3, zdk 3), .inr (.inl 8)]) (l2 := [.inl (3, (zdk 3).set 1 (some (some (o + 1)))), .inr (.inl 8)]) 0 (Nat.zero_lt_succ _) rfl rfl)
  have e3 := (congrArg (fun s => va_up s (o + 2) (.inr (.inl 8))) e2).trans (zap_new (l := [.inl (3, (zdk 3).set 1 (some (some (o + 1)))), .inr (.inl 8)]) (l2 := [.inl (3, (zdk 3).set 1 (some (some (o + 1)))), .inr (.inl 8), .inr (.inl 8)]) rfl rfl)
  have e4 := (congrArg (fun s => va_up s (o) (.inl (3, ((zdk 3).set 1 (some (some (o + 1)))).set 2 (some (some (o + 2)))))) e3).trans (zap_set (l := [.inl (3, (zdk 3).set 1 (some (some (o + 1)))), .inr (.inl 8), .inr (.inl 8)]) (l2 := [.inl (3, ((zdk 3).set 1 (some (some (o + 1)))).set 2 (some (some (o + 2)))), .inr (.inl 8), .inr (.inl 8)]) 0 (Nat.zero_lt_succ _) rfl rfl)
  have e5 := (congrArg (fun s => va_up s (o + 3) (.inr (.inl 8))) e4).trans (zap_new (l := [.inl (3, ((zdk 3).set 1 (some (some (o + 1)))).set 2 (some (some (o + 2)))), .inr (.inl 8), .inr (.inl 8)]) (l2 := [.inl (3, ((zdk 3).set 1 (some (some (o + 1)))).set 2 (some (some (o + 2)))), .inr (.inl 8), .inr (.inl 8), .inr (.inl 8)]) rfl rfl)
  have e6 := (congrArg (fun s => va_up s (o) (.inl (3, (((zdk 3).set 1 (some (some (o + 1)))).set 2 (some (some (o + 2)))).set 3 (some (some (o + 3)))))) e5).trans (zap_set (l := [.inl (3, ((zdk 3).set 1 (some (some (o + 1)))).set 2 (some (some (o + 2)))), .inr (.inl 8), .inr (.inl 8), .inr (.inl 8)]) (l2 := [.inl (3, (((zdk 3).set 1 (some (some (o + 1)))).set 2 (some (some (o + 2)))).set 3 (some (some (o + 3)))), .inr (.inl 8), .inr (.inl 8), .inr (.inl 8)]) 0 (Nat.zero_lt_succ _) rfl rfl)
  exact e6
noncomputable def sp_i3 : zSp := fun as sh n I F => match as with
  | [.ref o] => (n = o + 1 ∧ o + 4 ≤ 1000 ∧ sh o = .inl (3, zdk 3), none, zap sh o [.inl (3, (((zdk 3).set 1 (some (some (o + 1)))).set 2 (some (some (o + 2)))).set 3 (some (some (o + 3)))), .inr (.inl 8), .inr (.inl 8), .inr (.inl 8)], n + 3, va_up (va_up (va_up (I) (o + 1) (fun _ => 0)) (o + 2) (fun _ => 0)) (o + 3) (fun _ => 0), zu2 F o 0 0)
  | _ => (False, none, sh, n, I, F)
theorem sl_i3 (o : Nat) {sh : Nat → zShp} {n : Nat} {I F : zI} : sp_i3 [.ref o] sh n I F = (n = o + 1 ∧ o + 4 ≤ 1000 ∧ sh o = .inl (3, zdk 3), none, zap sh o [.inl (3, (((zdk 3).set 1 (some (some (o + 1)))).set 2 (some (some (o + 2)))).set 3 (some (some (o + 3)))), .inr (.inl 8), .inr (.inl 8), .inr (.inl 8)], n + 3, va_up (va_up (va_up (I) (o + 1) (fun _ => 0)) (o + 2) (fun _ => 0)) (o + 3) (fun _ => 0), zu2 F o 0 0) := rfl
theorem v_i3 (E : zE) (k : Nat) : zV E (k + 1) 301 3 24 sp_i3 := by
  intro as sh n I F h
  have ha : ∃ o, as = [.ref o] := by
    unfold sp_i3 at h
    split at h
    · exact ⟨_, rfl⟩
    · exact h.elim
  obtain ⟨o, rfl⟩ := ha
  have h : n = o + 1 ∧ o + 4 ≤ 1000 ∧ sh o = .inl (3, zdk 3) := h
  obtain ⟨rfl, h1, h2⟩ := h
  exact zOk_of 3 cX3_init 1 none zm_301 (by rw [zi_301]; rfl) (by rw [zi_301]) true (fun _ => by rw [zi_301]; rfl) (Nat.le_of_ble_eq_true rfl) (g_i3 (k := k) o h1 h2 ⟨rfl, ze_i3 h2, rfl, rfl, rfl⟩)
theorem ze_i0 {sh : Nat → zShp} {o h : Nat} (hsh : sh o = .inl (0, zdk 0)) : va_up (va_up (va_up (va_up (va_up (va_up (va_up (va_up (va_up (va_up (va_up (va_up (va_up (va_up (va_up (va_up (va_up (sh) (o + 1) (.inr (.inl 8))) o (.inl (0, (zdk 0).set 6 (some (some (o + 1)))))) (o + 2) (.inr (.inl 8))) o (.inl (0, ((zdk 0).set 6 (some (some (o + 1)))).set 7 (some (some (o + 2)))))) (o + 3) (.inr (.inl 8))) o (.inl (0, (((zdk 0).set 6 (some (some (o + 1)))).set 7 (some (some (o + 2)))).set 8 (some (some (o + 3)))))) (o + 4) (.inr (.inl 8))) o (.inl (0, ((((zdk 0).set 6 (some (some (o + 1)))).set 7 (some (some (o + 2)))).set 8 (some (some (o + 3)))).set 9 (some (some (o + 4)))))) (o + 5) (.inr (.inl 8))) o (.inl (0, (((((zdk 0).set 6 (some (some (o + 1)))).set 7 (some (some (o + 2)))).set 8 (some (some (o + 3)))).set 9 (some (some (o + 4)))).set 10 (some (some (o + 5)))))) (o + 6) (.inr (.inl 8))) o (.inl (0, ((((((zdk 0).set 6 (some (some (o + 1)))).set 7 (some (some (o + 2)))).set 8 (some (some (o + 3)))).set 9 (some (some (o + 4)))).set 10 (some (some (o + 5)))).set 11 (some (some (o + 6)))))) (o + 7) (.inr (.inl 8))) o (.inl (0, (((((((zdk 0).set 6 (some (some (o + 1)))).set 7 (some (some (o + 2)))).set 8 (some (some (o + 3)))).set 9 (some (some (o + 4)))).set 10 (some (some (o + 5)))).set 11 (some (some (o + 6)))).set 12 (some (some (o + 7)))))) (o + 8) (.inr (.inl 192))) o (.inl (0, ((((((((zdk 0).set 6 (some (some (o + 1)))).set 7 (some (some (o + 2)))).set 8 (some (some (o + 3)))).set 9 (some (some (o + 4)))).set 10 (some (some (o + 5)))).set 11 (some (some (o + 6)))).set 12 (some (some (o + 7)))).set 13 (some (some (o + 8)))))) o (.inl (0, (((((((((zdk 0).set 6 (some (some (o + 1)))).set 7 (some (some (o + 2)))).set 8 (some (some (o + 3)))).set 9 (some (some (o + 4)))).set 10 (some (some (o + 5)))).set 11 (some (some (o + 6)))).set 12 (some (some (o + 7)))).set 13 (some (some (o + 8)))).set 0 (some (some h)))) = zap sh o [.inl (0, (((((((((zdk 0).set 6 (some (some (o + 1)))).set 7 (some (some (o + 2)))).set 8 (some (some (o + 3)))).set 9 (some (some (o + 4)))).set 10 (some (some (o + 5)))).set 11 (some (some (o + 6)))).set 12 (some (some (o + 7)))).set 13 (some (some (o + 8)))).set 0 (some (some h))), .inr (.inl 8), .inr (.inl 8), .inr (.inl 8), .inr (.inl 8), .inr (.inl 8), .inr (.inl 8), .inr (.inl 8), .inr (.inl 192)] := by
  have e0 : sh = zap sh o [.inl (0, zdk 0)] := zap_one hsh
  have e1 := (congrArg (fun s => va_up s (o + 1) (.inr (.inl 8))) e0).trans (zap_new (l := [.inl (0, zdk 0)]) (l2 := [.inl (0, zdk 0), .inr (.inl 8)]) rfl rfl)
  have e2 := (congrArg (fun s => va_up s (o) (.inl (0, (zdk 0).set 6 (some (some (o + 1)))))) e1).trans (zap_set (l := [.inl (0, zdk 0), .inr (.inl 8)]) (l2 := [.inl (0, (zdk 0).set 6 (some (some (o + 1)))), .inr (.inl 8)]) 0 (Nat.zero_lt_succ _) rfl rfl)
  have e3 := (congrArg (fun s => va_up s (o + 2) (.inr (.inl 8))) e2).trans (zap_new (l := [.inl (0, (zdk 0).set 6 (some (some (o + 1)))), .inr (.inl 8)]) (l2 := [.inl (0, (zdk 0).set 6 (some (some (o + 1)))), .inr (.inl 8), .inr (.inl 8)]) rfl rfl)
  have e4 := (congrArg (fun s => va_up s (o) (.inl (0, ((zdk 0).set 6 (some (some (o + 1)))).set 7 (some (some (o + 2)))))) e3).trans (zap_set (l := [.inl (0, (zdk 0).set 6 (some (some (o + 1)))), .inr (.inl 8), .inr (.inl 8)]) (l2 := [.inl (0, ((zdk 0).set 6 (some (some (o + 1)))).set 7 (some (some (o + 2)))), .inr (.inl 8), .inr (.inl 8)]) 0 (Nat.zero_lt_succ _) rfl rfl)
  have e5 := (congrArg (fun s => va_up s (o + 3) (.inr (.inl 8))) e4).trans (zap_new (l := [.inl (0, ((zdk 0).set 6 (some (some (o + 1)))).set 7 (some (some (o + 2)))), .inr (.inl 8), .inr (.inl 8)]) (l2 := [.inl (0, ((zdk 0).set 6 (some (some (o + 1)))).set 7 (some (some (o + 2)))), .inr (.inl 8), .inr (.inl 8), .inr (.inl 8)]) rfl rfl)
  have e6 := (congrArg (fun s => va_up s (o) (.inl (0, (((zdk 0).set 6 (some (some (o + 1)))).set 7 (some (some (o + 2)))).set 8 (some (some (o + 3)))))) e5).trans (zap_set (l := [.inl (0, ((zdk 0).set 6 (some (some (o + 1)))).set 7 (some (some (o + 2)))), .inr (.inl 8), .inr (.inl 8), .inr (.inl 8)]) (l2 := [.inl (0, (((zdk 0).set 6 (some (some (o + 1)))).set 7 (some (some (o + 2)))).set 8 (some (some (o + 3)))), .inr (.inl 8), .inr (.inl 8), .inr (.inl 8)]) 0 (Nat.zero_lt_succ _) rfl rfl)
  have e7 := (congrArg (fun s => va_up s (o + 4) (.inr (.inl 8))) e6).trans (zap_new (l := [.inl (0, (((zdk 0).set 6 (some (some (o + 1)))).set 7 (some (some (o + 2)))).set 8 (some (some (o + 3)))), .inr (.inl 8), .inr (.inl 8), .inr (.inl 8)]) (l2 := [.inl (0, (((zdk 0).set 6 (some (some (o + 1)))).set 7 (some (some (o + 2)))).set 8 (some (some (o + 3)))), .inr (.inl 8), .inr (.inl 8), .inr (.inl 8), .inr (.inl 8)]) rfl rfl)
  have e8 := (congrArg (fun s => va_up s (o) (.inl (0, ((((zdk 0).set 6 (some (some (o + 1)))).set 7 (some (some (o + 2)))).set 8 (some (some (o + 3)))).set 9 (some (some (o + 4)))))) e7).trans (zap_set (l := [.inl (0, (((zdk 0).set 6 (some (some (o + 1)))).set 7 (some (some (o + 2)))).set 8 (some (some (o + 3)))), .inr (.inl 8), .inr (.inl 8), .inr (.inl 8), .inr (.inl 8)]) (l2 := [.inl (0, ((((zdk 0).set 6 (some (some (o + 1)))).set 7 (some (some (o + 2)))).set 8 (some (some (o + 3)))).set 9 (some (some (o + 4)))), .inr (.inl 8), .inr (.inl 8), .inr (.inl 8), .inr (.inl 8)]) 0 (Nat.zero_lt_succ _) rfl rfl)
  have e9 := (congrArg (fun s => va_up s (o + 5) (.inr (.inl 8))) e8).trans (zap_new (l := [.inl (0, ((((zdk 0).set 6 (some (some (o + 1)))).set 7 (some (some (o + 2)))).set 8 (some (some (o + 3)))).set 9 (some (some (o + 4)))), .inr (.inl 8), .inr (.inl 8), .inr (.inl 8), .inr (.inl 8)]) (l2 := [.inl (0, ((((zdk 0).set 6 (some (some (o + 1)))).set 7 (some (some (o + 2)))).set 8 (some (some (o + 3)))).set 9 (some (some (o + 4)))), .inr (.inl 8), .inr (.inl 8), .inr (.inl 8), .inr (.inl 8), .inr (.inl 8)]) rfl rfl)
  have e10 := (congrArg (fun s => va_up s (o) (.inl (0, (((((zdk 0).set 6 (some (some (o + 1)))).set 7 (some (some (o + 2)))).set 8 (some (some (o + 3)))).set 9 (some (some (o + 4)))).set 10 (some (some (o + 5)))))) e9).trans (zap_set (l := [.inl (0, ((((zdk 0).set 6 (some (some (o + 1)))).set 7 (some (some (o + 2)))).set 8 (some (some (o + 3)))).set 9 (some (some (o + 4)))), .inr (.inl 8), .inr (.inl 8), .inr (.inl 8), .inr (.inl 8), .inr (.inl 8)]) (l2 := [.inl (0, (((((zdk 0).set 6 (some (some (o + 1)))).set 7 (some (some (o + 2)))).set 8 (some (some (o + 3)))).set 9 (some (some (o + 4)))).set 10 (some (some (o + 5)))), .inr (.inl 8), .inr (.inl 8), .inr (.inl 8), .inr (.inl 8), .inr (.inl 8)]) 0 (Nat.zero_lt_succ _) rfl rfl)
  have e11 := (congrArg (fun s => va_up s (o + 6) (.inr (.inl 8))) e10).trans (zap_new (l := [.inl (0, (((((zdk 0).set 6 (some (some (o + 1)))).set 7 (some (some (o + 2)))).set 8 (some (some (o + 3)))).set 9 (some (some (o + 4)))).set 10 (some (some (o + 5)))), .inr (.inl 8), .inr (.inl 8), .inr (.inl 8), .inr (.inl 8), .inr (.inl 8)]) (l2 := [.inl (0, (((((zdk 0).set 6 (some (some (o + 1)))).set 7 (some (some (o + 2)))).set 8 (some (some (o + 3)))).set 9 (some (some (o + 4)))).set 10 (some (some (o + 5)))), .inr (.inl 8), .inr (.inl 8), .inr (.inl 8), .inr (.inl 8), .inr (.inl 8), .inr (.inl 8)]) rfl rfl)
  have e12 := (congrArg (fun s => va_up s (o) (.inl (0, ((((((zdk 0).set 6 (some (some (o + 1)))).set 7 (some (some (o + 2)))).set 8 (some (some (o + 3)))).set 9 (some (some (o + 4)))).set 10 (some (some (o + 5)))).set 11 (some (some (o + 6)))))) e11).trans (zap_set (l := [.inl (0, (((((zdk 0).set 6 (some (some (o + 1)))).set 7 (some (some (o + 2)))).set 8 (some (some (o + 3)))).set 9 (some (some (o + 4)))).set 10 (some (some (o + 5)))), .inr (.inl 8), .inr (.inl 8), .inr (.inl 8), .inr (.inl 8), .inr (.inl 8), .inr (.inl 8)]) (l2 := [.inl (0, ((((((zdk 0).set 6 (some (some (o + 1)))).set 7 (some (some (o + 2)))).set 8 (some (some (o + 3)))).set 9 (some (some (o + 4)))).set 10 (some (some (o + 5)))).set 11 (some (some (o + 6)))), .inr (.inl 8), .inr (.inl 8), .inr (.inl 8), .inr (.inl 8), .inr (.inl 8), .inr (.inl 8)]) 0 (Nat.zero_lt_succ _) rfl rfl)
  have e13 := (congrArg (fun s => va_up s (o + 7) (.inr (.inl 8))) e12).trans (zap_new (l := [.inl (0, ((((((zdk 0).set 6 (some (some (o + 1)))).set 7 (some (some (o + 2)))).set 8 (some (some (o + 3)))).set 9 (some (some (o + 4)))).set 10 (some (some (o + 5)))).set 11 (some (some (o + 6)))), .inr (.inl 8), .inr (.inl 8), .inr (.inl 8), .inr (.inl 8), .inr (.inl 8), .inr (.inl 8)]) (l2 := [.inl (0, ((((((zdk 0).set 6 (some (some (o + 1)))).set 7 (some (some (o + 2)))).set 8 (some (some (o + 3)))).set 9 (some (some (o + 4)))).set 10 (some (some (o + 5)))).set 11 (some (some (o + 6)))), .inr (.inl 8), .inr (.inl 8), .inr (.inl 8), .inr (.inl 8), .inr (.inl 8), .inr (.inl 8), .inr (.inl 8)]) rfl rfl)
  have e14 := (congrArg (fun s => va_up s (o) (.inl (0, (((((((zdk 0).set 6 (some (some (o + 1)))).set 7 (some (some (o + 2)))).set 8 (some (some (o + 3)))).set 9 (some (some (o + 4)))).set 10 (some (some (o + 5)))).set 11 (some (some (o + 6)))).set 12 (some (some (o + 7)))))) e13).trans (zap_set (l := [.inl (0, ((((((zdk 0).set 6 (some (some (o + 1)))).set 7 (some (some (o + 2)))).set 8 (some (some (o + 3)))).set 9 (some (some (o + 4)))).set 10 (some (some (o + 5)))).set 11 (some (some (o + 6)))), .inr (.inl 8), .inr (.inl 8), .inr (.inl 8), .inr (.inl 8), .inr (.inl 8), .inr (.inl 8), .inr (.inl 8)]) (l2 := [.inl (0, (((((((zdk 0).set 6 (some (some (o + 1)))).set 7 (some (some (o + 2)))).set 8 (some (some (o + 3)))).set 9 (some (some (o + 4)))).set 10 (some (some (o + 5)))).set 11 (some (some (o + 6)))).set 12 (some (some (o + 7)))), .inr (.inl 8), .inr (.inl 8), .inr (.inl 8), .inr (.inl 8), .inr (.inl 8), .inr (.inl 8), .inr (.inl 8)]) 0 (Nat.zero_lt_succ _) rfl rfl)
  have e15 := (congrArg (fun s => va_up s (o + 8) (.inr (.inl 192))) e14).trans (zap_new (l := [.inl (0, (((((((zdk 0).set 6 (some (some (o + 1)))).set 7 (some (some (o + 2)))).set 8 (some (some (o + 3)))).set 9 (some (some (o + 4)))).set 10 (some (some (o + 5)))).set 11 (some (some (o + 6)))).set 12 (some (some (o + 7)))), .inr (.inl 8), .inr (.inl 8), .inr (.inl 8), .inr (.inl 8), .inr (.inl 8), .inr (.inl 8), .inr (.inl 8)]) (l2 := [.inl (0, (((((((zdk 0).set 6 (some (some (o + 1)))).set 7 (some (some (o + 2)))).set 8 (some (some (o + 3)))).set 9 (some (some (o + 4)))).set 10 (some (some (o + 5)))).set 11 (some (some (o + 6)))).set 12 (some (some (o + 7)))), .inr (.inl 8), .inr (.inl 8), .inr (.inl 8), .inr (.inl 8), .inr (.inl 8), .inr (.inl 8), .inr (.inl 8), .inr (.inl 192)]) rfl rfl)
  have e16 := (congrArg (fun s => va_up s (o) (.inl (0, ((((((((zdk 0).set 6 (some (some (o + 1)))).set 7 (some (some (o + 2)))).set 8 (some (some (o + 3)))).set 9 (some (some (o + 4)))).set 10 (some (some (o + 5)))).set 11 (some (some (o + 6)))).set 12 (some (some (o + 7)))).set 13 (some (some (o + 8)))))) e15).trans (zap_set (l := [.inl (0, (((((((zdk 0).set 6 (some (some (o + 1)))).set 7 (some (some (o + 2)))).set 8 (some (some (o + 3)))).set 9 (some (some (o + 4)))).set 10 (some (some (o + 5)))).set 11 (some (some (o + 6)))).set 12 (some (some (o + 7)))), .inr (.inl 8), .inr (.inl 8), .inr (.inl 8), .inr (.inl 8), .inr (.inl 8), .inr (.inl 8), .inr (.inl 8), .inr (.inl 192)]) (l2 := [.inl (0, ((((((((zdk 0).set 6 (some (some (o + 1)))).set 7 (some (some (o + 2)))).set 8 (some (some (o + 3)))).set 9 (some (some (o + 4)))).set 10 (some (some (o + 5)))).set 11 (some (some (o + 6)))).set 12 (some (some (o + 7)))).set 13 (some (some (o + 8)))), .inr (.inl 8), .inr (.inl 8), .inr (.inl 8), .inr (.inl 8), .inr (.inl 8), .inr (.inl 8), .inr (.inl 8), .inr (.inl 192)]) 0 (Nat.zero_lt_succ _) rfl rfl)
  have e17 := (congrArg (fun s => va_up s (o) (.inl (0, (((((((((zdk 0).set 6 (some (some (o + 1)))).set 7 (some (some (o + 2)))).set 8 (some (some (o + 3)))).set 9 (some (some (o + 4)))).set 10 (some (some (o + 5)))).set 11 (some (some (o + 6)))).set 12 (some (some (o + 7)))).set 13 (some (some (o + 8)))).set 0 (some (some h))))) e16).trans (zap_set (l := [.inl (0, ((((((((zdk 0).set 6 (some (some (o + 1)))).set 7 (some (some (o + 2)))).set 8 (some (some (o + 3)))).set 9 (some (some (o + 4)))).set 10 (some (some (o + 5)))).set 11 (some (some (o + 6)))).set 12 (some (some (o + 7)))).set 13 (some (some (o + 8)))), .inr (.inl 8), .inr (.inl 8), .inr (.inl 8), .inr (.inl 8), .inr (.inl 8), .inr (.inl 8), .inr (.inl 8), .inr (.inl 192)]) (l2 := [.inl (0, (((((((((zdk 0).set 6 (some (some (o + 1)))).set 7 (some (some (o + 2)))).set 8 (some (some (o + 3)))).set 9 (some (some (o + 4)))).set 10 (some (some (o + 5)))).set 11 (some (some (o + 6)))).set 12 (some (some (o + 7)))).set 13 (some (some (o + 8)))).set 0 (some (some h))), .inr (.inl 8), .inr (.inl 8), .inr (.inl 8), .inr (.inl 8), .inr (.inl 8), .inr (.inl 8), .inr (.inl 8), .inr (.inl 192)]) 0 (Nat.zero_lt_succ _) rfl rfl)
  exact e17
noncomputable def sp_i0 : zSp := fun as sh n I F => match as with
  | [.ref o, .ref q] => (n = o + 1 ∧ o + 9 ≤ 1000 ∧ sh o = .inl (0, zdk 0), none, zap sh o [.inl (0, (((((((((zdk 0).set 6 (some (some (o + 1)))).set 7 (some (some (o + 2)))).set 8 (some (some (o + 3)))).set 9 (some (some (o + 4)))).set 10 (some (some (o + 5)))).set 11 (some (some (o + 6)))).set 12 (some (some (o + 7)))).set 13 (some (some (o + 8)))).set 0 (some (some q))), .inr (.inl 8), .inr (.inl 8), .inr (.inl 8), .inr (.inl 8), .inr (.inl 8), .inr (.inl 8), .inr (.inl 8), .inr (.inl 192)], n + 8, va_up (va_up (va_up (va_up (va_up (va_up (va_up (va_up (I) (o + 1) (fun _ => 0)) (o + 2) (fun _ => 0)) (o + 3) (fun _ => 0)) (o + 4) (fun _ => 0)) (o + 5) (fun _ => 0)) (o + 6) (fun _ => 0)) (o + 7) (fun _ => 0)) (o + 8) (fun _ => 0), zu2 F o 1 (-1))
  | _ => (False, none, sh, n, I, F)
theorem sl_i0 (o q : Nat) {sh : Nat → zShp} {n : Nat} {I F : zI} : sp_i0 [.ref o, .ref q] sh n I F = (n = o + 1 ∧ o + 9 ≤ 1000 ∧ sh o = .inl (0, zdk 0), none, zap sh o [.inl (0, (((((((((zdk 0).set 6 (some (some (o + 1)))).set 7 (some (some (o + 2)))).set 8 (some (some (o + 3)))).set 9 (some (some (o + 4)))).set 10 (some (some (o + 5)))).set 11 (some (some (o + 6)))).set 12 (some (some (o + 7)))).set 13 (some (some (o + 8)))).set 0 (some (some q))), .inr (.inl 8), .inr (.inl 8), .inr (.inl 8), .inr (.inl 8), .inr (.inl 8), .inr (.inl 8), .inr (.inl 8), .inr (.inl 192)], n + 8, va_up (va_up (va_up (va_up (va_up (va_up (va_up (va_up (I) (o + 1) (fun _ => 0)) (o + 2) (fun _ => 0)) (o + 3) (fun _ => 0)) (o + 4) (fun _ => 0)) (o + 5) (fun _ => 0)) (o + 6) (fun _ => 0)) (o + 7) (fun _ => 0)) (o + 8) (fun _ => 0), zu2 F o 1 (-1)) := rfl
theorem v_i0 (E : zE) (k : Nat) : zV E (k + 1) 1 8 248 sp_i0 := by
  intro as sh n I F h
  have ha : ∃ o q, as = [.ref o, .ref q] := by
    unfold sp_i0 at h
    split at h
    · exact ⟨_, _, rfl⟩
    · exact h.elim
  obtain ⟨o, q, rfl⟩ := ha
  have h : n = o + 1 ∧ o + 9 ≤ 1000 ∧ sh o = .inl (0, zdk 0) := h
  obtain ⟨rfl, h1, h2⟩ := h
  exact zOk_of 0 cX0_init 2 none zm_1 (by rw [zi_1]; rfl) (by rw [zi_1]) true (fun _ => by rw [zi_1]; rfl) (Nat.le_of_ble_eq_true rfl) (g_i0 (k := k) o q h1 h2 ⟨rfl, ze_i0 h2, rfl, rfl, rfl⟩)
/-! Text: with room for 31 -/
theorem g_i4b {E : zE} {k : Nat} {Post : zPo} {sh : Nat → zShp} {I F : zI} (o : Nat) (a b : Int32) (l : Nat) (hl : l ≤ 31) (ho : o + 2 ≤ 1000) (hsh : sh o = .inl (4, zdk 4)) (hp : Post none (va_up (va_up sh (o + 1) (.inr (.inl l))) o (.inl (4, (zdk 4).set 2 (some (some (o + 1)))))) (o + 2) (va_up I (o + 1) (fun _ => 0)) (zu2 (zu2 (zu2 (zu2 F o 0 a) o 1 b) o 3 0) o 4 (-1))) : zG E 4 cX4_init 4 none true 1 31 k 1 31 Post 0 [some (.ref o), some (.int a), some (.int b), some (.int (nI l))] [] sh (o + 1) I F 0 0 := by
  have n1 : (nI l < 0) = False := nI_nl (by omega)
  have c1 : (nI l).toNatClampNeg = l := nI_clamp (by omega)
  have l1 : l ≤ 1000 := by omega
  have f4 : zfk sh (o + 1) o 4 0 = some none := (zfk_at (by omega) hsh).trans (by decide +kernel)
  have f5 : zfk sh (o + 1) o 4 1 = some none := (zfk_at (by omega) hsh).trans (by decide +kernel)
  have s1 : va_up sh (o + 1) (.inr (.inl l)) o = .inl (4, zdk 4) := (zva_ne (by omega)).trans hsh
  have f1 : zfk (va_up sh (o + 1) (.inr (.inl l))) (o + 1 + 1) o 4 2 = some (some none) := (zfk_at (by omega) s1).trans (by decide +kernel)
  have f2 : zfk (va_up (va_up sh (o + 1) (.inr (.inl l))) o (.inl (4, (zdk 4).set 2 (some (some (o + 1)))))) (o + 1 + 1) o 4 3 = some none := (zfk_at (by omega) zva_eq).trans (by rw [List.getElem?_set_ne (by decide)]; decide +kernel)
  have f3 : zfk (va_up (va_up sh (o + 1) (.inr (.inl l))) o (.inl (4, (zdk 4).set 2 (some (some (o + 1)))))) (o + 1 + 1) o 4 4 = some none := (zfk_at (by omega) zva_eq).trans (by rw [List.getElem?_set_ne (by decide)]; decide +kernel)
  refine zgo1 (S := []) 40 [] (fun _ h => absurd h List.not_mem_nil) ?_
  simp only [zk_m9_m1, zk_m9_0, zk_m9_1, zk_m9_2, zk_m9_3, zk_m9_4, zk_m1_m9, zk_m1_0, zk_m1_1, zk_m1_2, zk_m1_3, zk_m1_4, zk_0_m9, zk_0_m1, zk_0_1, zk_0_2, zk_0_3, zk_0_4, zk_1_m9, zk_1_m1, zk_1_0, zk_1_2, zk_1_3, zk_1_4, zk_2_m9, zk_2_m1, zk_2_0, zk_2_1, zk_2_3, zk_2_4, zk_3_m9, zk_3_m1, zk_3_0, zk_3_1, zk_3_2, zk_3_4, zk_4_m9, zk_4_m1, zk_4_0, zk_4_1, zk_4_2, zk_4_3, List.mem_cons, List.not_mem_nil, or_false, or_self, false_or, true_or, or_true, true_and, and_true, and_self, not_false_eq_true, not_true_eq_false, List.length_cons, List.length_nil, zpok, Bool.false_eq_true, Bool.true_eq_false, reduceCtorEq, Option.some.injEq, Nat.reduceAdd, Nat.reduceSub, Nat.reduceMul, Nat.reduceDiv, Nat.reduceLT, Nat.reduceLeDiff, Nat.reduceEqDiff, ↓reduceIte, Nat.zero_add, Nat.add_zero, Nat.le_refl, Nat.zero_le, Nat.zero_lt_succ, eq_self, ne_eq, Nat.succ_ne_zero, Nat.zero_ne_one, Nat.one_ne_zero, zu_ne, zu_eq, pk_us, Classical.not_not, zif, zx_iconst, zx_bipush, zx_sipush, zx_lconst0, zx_lconst1, zx_ldc, zx_ldcw, zx_ldc2, zx_iload, zx_istore, zx_iload0, zx_istore0, zx_iload1, zx_istore1, zx_iload2, zx_istore2, zx_iload3, zx_istore3, zx_lload, zx_lstore, zx_lload0, zx_lstore0, zx_lload1, zx_lstore1, zx_lload2, zx_lstore2, zx_lload3, zx_lstore3, zx_aload, zx_astore, zx_aload0, zx_astore0, zx_aload1, zx_astore1, zx_aload2, zx_astore2, zx_aload3, zx_astore3, zx_iinc, zx_iadd, zx_isub, zx_imul, zx_iand, zx_ior, zx_ixor, zx_ishl, zx_ishr, zx_iushr, zx_ladd, zx_lsub, zx_lmul, zx_land, zx_idiv, zx_irem, zx_ldiv, zx_lrem, zx_lshl, zx_lshr, zx_lcmp, zx_i2l, zx_i2b, zx_i2s, zx_pop_int, zx_dup_int, zx_pop_ref, zx_dup_ref, zx_dup2, zx_goto, zx_if_eq, zx_if_ne, zx_if_lt, zx_if_ge, zx_if_gt, zx_if_le, zx_icmp_eq, zx_icmp_ne, zx_icmp_lt, zx_icmp_ge, zx_icmp_gt, zx_icmp_le, zx_ireturn, zx_lreturn, zx_return, zx_getstatic, zx_getfield, zx_putfield, zx_putfieldR, zx_iaload, zx_iastore, zx_aaload, zx_arraylength, zx_invokevirtual, zx_invokestatic, zx_invokespecial, zx_newarray, zy_ldI, zy_ldL, zy_ldA, zy_kcI, zy_kcL, zy_inc, zy_gf2, zy_gf1, zy_pf2, zy_pf1, zy_pr2, zy_pr1, zy_ia1, zy_is1, zy_aa1, zy_ln1, zy_ca0, zy_ca1x, zy_rc1, zy_ca2, zy_rc2, zy_ca3, zy_rc3, zy_ca4, zy_rc4, zy_ca5, zy_rc5, zy_ca6, zy_rc6, zy_cal2, zy_cv1, zy_cs0, zy_cs5, zy_cs6, zy_cs7, zy_cs4, zy_cy1, zy_ci3, zy_ci2, zrun_s, zl_g0, zl_gs, zl_s0, zl_ss, zl_l0, zl_ls, zl_kn, zl_ki, zl_kr, zl_k0, zl_ks, zl_fn, zl_fr, zl_rs, zl_lk, zl_ct0, zl_cti, zl_ctr, zl_ctl, zl_tl0, zl_tl1, zl_sl0, zl_sli, zl_slr, zl_sll, zl_p0, zl_p1, zl_p2, zl_lkn, zn_im1, zn_i0, zn_i1, zn_i2, zn_i3, zn_i4, zn_i5, zn_i6, zn_bm10, zn_bm9, zn_bm4, zn_bm3, zn_bm2, zn_b6, zn_b7, zn_b8, zn_b9, zn_b10, zn_b12, zn_b16, zn_b17, zn_b18, zn_b20, zn_b23, zn_b24, zn_b25, zn_b31, zn_b32, zn_b48, zn_b49, zn_b55, zn_b57, zn_b59, zn_b60, zn_b63, zn_b64, zn_b96, zn_b97, zn_b99, zn_b104, zn_b109, zn_b120, zn_s192, zn_s240, zn_s256, zn_s999, zn_s12345, dX4_init_0, dX4_init_1, dX4_init_4, dX4_init_5, dX4_init_6, dX4_init_9, dX4_init_10, dX4_init_11, dX4_init_14, dX4_init_15, dX4_init_16, dX4_init_18, dX4_init_21, dX4_init_22, dX4_init_23, dX4_init_26, dX4_init_27, dX4_init_28, dX4_init_31, zt_f4_15, zt_f4_18, zt_f4_22, zt_f4_25, zt_f4_9, zt_m4_3, zf_0_0, zf_0_1, zf_0_2, zf_0_3, zf_0_4, zf_0_5, zf_0_6, zf_0_7, zf_0_8, zf_0_9, zo_0, zr_1, zf_2_0, zf_2_1, zf_2_2, zf_2_3, zf_2_4, zo_2, zp_3, zq_3, zf_4_0, zf_4_1, zf_4_2, zf_4_3, zf_4_4, zo_4, zp_5, zq_5, zf_6_0, zf_6_1, zf_6_2, zf_6_3, zf_6_4, zo_6, zp_7, zq_7, zf_8_0, zf_8_1, zf_8_2, zf_8_3, zf_8_4, zf_8_5, zf_8_6, zf_8_7, zf_8_8, zf_8_9, zf_8_10, zf_8_11, zf_8_12, zo_8, zp_9, zq_9, zp_10, zq_10, zp_11, zq_11, zp_12, zq_12, zp_13, zq_13, zp_14, zq_14, zp_15, zq_15, zp_16, zq_16, zf_17_0, zf_17_1, zf_17_2, zf_17_3, zf_17_4, zf_17_5, zf_17_6, zf_17_7, zf_17_8, zf_17_9, zf_17_10, zf_17_11, zf_17_12, zf_17_13, zo_17, zp_18, zq_18, zp_19, zq_19, zp_20, zq_20, zp_21, zq_21, zp_22, zq_22, zp_23, zq_23, zp_24, zq_24, zp_25, zq_25, zf_26_0, zf_26_1, zf_26_2, zf_26_3, zf_26_4, zf_26_5, zf_26_6, zf_26_7, zf_26_8, zf_26_9, zf_26_10, zf_26_11, zf_26_12, zf_26_13, zo_26, zp_27, zq_27, zp_28, zq_28, zp_29, zq_29, zp_30, zq_30, zp_31, zq_31, zp_32, zq_32, zp_33, zq_33, zp_34, zq_34, zp_35, zq_35, zf_36_0, zf_36_1, zf_36_2, zf_36_3, zo_36, zp_37, zq_37, zp_38, zq_38, zp_39, zq_39, zp_40, zq_40, zr_41, zf_42_0, zf_42_1, zf_42_2, zo_42, zp_43, zq_43, zf_44_0, zf_44_1, zf_44_2, zo_44, zp_45, zq_45, zf_46_0, zf_46_1, zf_46_2, zo_46, zp_47, zq_47, zf_48_0, zf_48_1, zf_48_2, zo_48, zp_49, zq_49, zf_50_0, zf_50_1, zf_50_2, zf_50_3, zf_50_4, zf_50_5, zf_50_6, zf_50_7, zf_50_8, zf_50_9, zf_50_10, zf_50_11, zf_50_12, zf_50_13, zf_50_14, zf_50_15, zf_50_16, zf_50_17, zf_50_18, zf_50_19, zf_50_20, zf_50_21, zf_50_22, zf_50_23, zf_50_24, zf_50_25, zf_50_26, zf_50_27, zf_50_28, zf_50_29, zf_50_30, zf_50_31, zf_50_32, zf_50_33, zf_50_34, zf_50_35, zf_50_36, zo_50, zp_51, zq_51, zp_52, zq_52, zp_53, zq_53, zp_54, zq_54, zp_55, zq_55, zp_56, zq_56, zp_57, zq_57, zp_58, zq_58, zp_59, zq_59, zp_60, zq_60, zp_61, zq_61, zp_62, zq_62, zp_63, zq_63, zp_64, zq_64, zp_65, zq_65, zp_66, zq_66, zp_67, zq_67, zp_68, zq_68, zp_69, zq_69, zp_70, zq_70, zp_71, zq_71, zp_72, zq_72, zp_73, zq_73, zp_74, zq_74, zp_75, zq_75, zp_76, zq_76, zp_1000, zp_1001, n1, c1, l1, hl, ho, f4, f5, f1, zsr_at s1, f2, f3, true_implies, implies_true, not_true_eq_false, not_false_eq_true, false_implies, and_true, true_and]
  exact hp
theorem ze_i4 {sh : Nat → zShp} {o l : Nat} (hsh : sh o = .inl (4, zdk 4)) : va_up (va_up (sh) (o + 1) (.inr (.inl l))) o (.inl (4, (zdk 4).set 2 (some (some (o + 1))))) = zap sh o [.inl (4, (zdk 4).set 2 (some (some (o + 1)))), .inr (.inl l)] := by
  have e0 : sh = zap sh o [.inl (4, zdk 4)] := zap_one hsh
  have e1 := (congrArg (fun s => va_up s (o + 1) (.inr (.inl l))) e0).trans (zap_new (l := [.inl (4, zdk 4)]) (l2 := [.inl (4, zdk 4), .inr (.inl l)]) rfl rfl)
  have e2 := (congrArg (fun s => va_up s (o) (.inl (4, (zdk 4).set 2 (some (some (o + 1)))))) e1).trans (zap_set (l := [.inl (4, zdk 4), .inr (.inl l)]) (l2 := [.inl (4, (zdk 4).set 2 (some (some (o + 1)))), .inr (.inl l)]) 0 (Nat.zero_lt_succ _) rfl rfl)
  exact e2
noncomputable def sp_i4 : zSp := fun as sh n I F => match as with
  | [.ref o, .int a, .int b, .int d] => (n = o + 1 ∧ o + 2 ≤ 1000 ∧ vp_in d 32 ∧ sh o = .inl (4, zdk 4), none, zap sh o [.inl (4, (zdk 4).set 2 (some (some (o + 1)))), .inr (.inl d.toNatClampNeg)], n + 1, va_up I (o + 1) (fun _ => 0), zu2 (zu2 (zu2 (zu2 F o 0 a) o 1 b) o 3 0) o 4 (-1))
  | _ => (False, none, sh, n, I, F)
theorem sl_i4 (o : Nat) (a b d : Int32) {sh : Nat → zShp} {n : Nat} {I F : zI} : sp_i4 [.ref o, .int a, .int b, .int d] sh n I F = (n = o + 1 ∧ o + 2 ≤ 1000 ∧ vp_in d 32 ∧ sh o = .inl (4, zdk 4), none, zap sh o [.inl (4, (zdk 4).set 2 (some (some (o + 1)))), .inr (.inl d.toNatClampNeg)], n + 1, va_up I (o + 1) (fun _ => 0), zu2 (zu2 (zu2 (zu2 F o 0 a) o 1 b) o 3 0) o 4 (-1)) := rfl
theorem v_i4 (E : zE) (k : Nat) : zV E (k + 1) 401 1 31 sp_i4 := by
  intro as sh n I F h
  have ha : ∃ o a b d, as = [.ref o, .int a, .int b, .int d] := by
    unfold sp_i4 at h
    split at h
    · exact ⟨_, _, _, _, rfl⟩
    · exact h.elim
  obtain ⟨o, a, b, d, rfl⟩ := ha
  have h : n = o + 1 ∧ o + 2 ≤ 1000 ∧ vp_in d 32 ∧ sh o = .inl (4, zdk 4) := h
  obtain ⟨rfl, h1, h3, h2⟩ := h
  obtain ⟨l, hl, rfl⟩ := vp_in_of h3 (by decide)
  exact zOk_of 4 cX4_init 4 none zm_401 (by rw [zi_401]; rfl) (by rw [zi_401]) true (fun _ => by rw [zi_401]; rfl) (Nat.le_of_ble_eq_true rfl) (g_i4b (k := k) o a b l (by omega) h1 h2 ⟨rfl, by rw [sl_i4]; dsimp only; rw [nI_clamp (by omega)]; exact ze_i4 h2, rfl, rfl, rfl⟩)
