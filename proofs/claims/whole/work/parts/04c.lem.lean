/-! ===== lemmas of the abstract machine ===== -/
theorem zad_lt {E : zE} {k : Nat} (h : k < 1000) : zad E k = zeB E + k := by
  unfold zad
  rw [if_neg (by omega), if_neg (by omega)]
theorem zcv_cat (E : zE) (v : Value) : (zcv E v).category = v.category := by cases v <;> rfl
theorem zct_map (E : zE) (st : List Value) : ((st.map (zcv E)).map fun v => v.category).sum = zct st := by
  unfold zct
  rw [List.map_map]
  congr 1
  exact List.map_congr_left (fun v _ => zcv_cat E v)
theorem zws_len {E : zE} {sh : Nat → zShp} {n : Nat} {I F : zI} : (zws E sh n I F).length = n := by simp [zws]
theorem zws_get {E : zE} {sh : Nat → zShp} {n : Nat} {I F : zI} {k : Nat} (h : k < n) : (zws E sh n I F)[k]? = some (zeB E + k, zcell E (sh k) (I k) (F k)) := by
  simp [zws, List.getElem?_range, h]
theorem zws_some {E : zE} {sh : Nat → zShp} {n : Nat} {I F : zI} {i : Nat} {p : Nat × va_E} (h : (zws E sh n I F)[i]? = some p) : i < n ∧ p = (zeB E + i, zcell E (sh i) (I i) (F i)) := by
  have hi : i < n := by
    have := (List.getElem?_eq_some_iff.mp h).1
    simpa [zws] using this
  rw [zws_get hi] at h
  exact ⟨hi, (Option.some.inj h).symm⟩
theorem zD {E : zE} {sh : Nat → zShp} {n : Nat} {I F : zI} : va_D (zA E) (zws E sh n I F) := ⟨fun i j p q hi hj e => by
  obtain ⟨-, rfl⟩ := zws_some hi
  obtain ⟨-, rfl⟩ := zws_some hj
  exact Nat.add_left_cancel e, fun k q hk => by
  obtain ⟨-, rfl⟩ := zws_some hk
  exact Nat.le_add_right _ _⟩
theorem zws_set {E : zE} {sh sh' : Nat → zShp} {n : Nat} {I F I' F' : zI} {k : Nat} {e : va_E} (hk : k < n) (ho : ∀ j, j ≠ k → sh' j = sh j ∧ I' j = I j ∧ F' j = F j) (he : zcell E (sh' k) (I' k) (F' k) = e) : (zws E sh n I F).set k (zeB E + k, e) = zws E sh' n I' F' := by
  subst he
  apply List.ext_getElem?
  intro i
  by_cases hi : i = k
  · subst hi
    rw [List.getElem?_set_self (by rw [zws_len]; exact hk), zws_get hk]
  · rw [List.getElem?_set_ne (fun h => hi h.symm)]
    by_cases hn : i < n
    · obtain ⟨a, b, c⟩ := ho i hi
      rw [zws_get hn, zws_get hn, a, b, c]
    · rw [List.getElem?_eq_none (by rw [zws_len]; omega), List.getElem?_eq_none (by rw [zws_len]; omega)]
theorem zws_push {E : zE} {sh sh' : Nat → zShp} {n : Nat} {I F I' F' : zI} (ho : ∀ j, j < n → sh' j = sh j ∧ I' j = I j ∧ F' j = F j) : zws E sh' (n + 1) I' F' = zws E sh n I F ++ [(zeB E + n, zcell E (sh' n) (I' n) (F' n))] := by
  unfold zws
  rw [List.range_succ, List.map_append]
  congr 1
  apply List.map_congr_left
  intro k hk
  obtain ⟨a, b, c⟩ := ho k (List.mem_range.mp hk)
  rw [a, b, c]
theorem zup_ne {α : Type} (f : Nat → α) {k j : Nat} (v : α) (h : j ≠ k) : va_up f k v j = f j := if_neg h
theorem zup_eq {α : Type} (f : Nat → α) (k : Nat) (v : α) : va_up f k v k = v := if_pos rfl
/-! words -/
theorem zG_of {w : Cond} {i : Nat} (h : lw_tbl[i]? = some w) (hg : goodWord w = true) : w ∈ ztbG := List.mem_filter.mpr ⟨List.mem_of_getElem? h, hg⟩
theorem zN_of {w : Cond} {i : Nat} (h : lw_tbl[i]? = some w) (hg : zisN w = true) : w ∈ ztbN := List.mem_filter.mpr ⟨List.mem_of_getElem? h, hg⟩
theorem zall {ws : List Cond} (h : (ws.all (fun w => decide (w ∈ lw_tbl) && goodWord w)) = true) : ∀ w ∈ ws, w ∈ ztbG := fun w hw => by
  have := List.all_eq_true.mp h w hw
  simp only [Bool.and_eq_true, decide_eq_true_eq] at this
  exact List.mem_filter.mpr this
theorem zGood : ∀ w ∈ ztbG, w ∈ ztbG ∧ ((w.onTables && w.keeps) = true ∨ ∃ ty, w = .arrayClass ty) := fun w h => ⟨h, good_of_word (List.mem_filter.mp h).2⟩
theorem zW1 : ∀ w ∈ zWl, w ∈ ztbG := zall zuW1
theorem zcl7 {ci : Nat} (h : ci < 7) : zcl[ci]? = some (zcl.getD ci (RX0, TX0, 14)) := by
  match ci, h with
  | 0, _ => rfl
  | 1, _ => rfl
  | 2, _ => rfl
  | 3, _ => rfl
  | 4, _ => rfl
  | 5, _ => rfl
  | 6, _ => rfl
def zclF (C : String) (T : u_T) (N : Nat) : Prop := (∀ w ∈ u_ws C T N, w ∈ ztbG) ∧ (∃ ty : Nat → FieldType, ∀ k, k < N → parseFieldDescriptor (T k).2.2.1 = some (ty k)) ∧ (∀ a, a < N → ∀ b, b < N → a ≠ b → (T a).2.1 ≠ (T b).2.1) ∧ Cond.instantiable C N ∈ ztbG ∧ Cond.initialized C ∈ ztbG
theorem zcl_ok {ci : Nat} {C : String} {T : u_T} {N : Nat} (h : zcl[ci]? = some (C, T, N)) : zclF C T N := by
  have h0 := zuW0
  simp only [Bool.and_eq_true] at h0
  obtain ⟨⟨⟨⟨⟨⟨a0, a1⟩, a2⟩, a3⟩, a4⟩, a5⟩, a6⟩ := h0
  match ci, h with
  | 0, h => cases h; exact ⟨zall a0, ⟨_, tyX0_ok⟩, nmX0, zW1 _ (by decide +kernel), zW1 _ (by decide +kernel)⟩
  | 1, h => cases h; exact ⟨zall a1, ⟨_, tyX1_ok⟩, nmX1, zW1 _ (by decide +kernel), zW1 _ (by decide +kernel)⟩
  | 2, h => cases h; exact ⟨zall a2, ⟨_, tyX2_ok⟩, nmX2, zW1 _ (by decide +kernel), zW1 _ (by decide +kernel)⟩
  | 3, h => cases h; exact ⟨zall a3, ⟨_, tyX3_ok⟩, nmX3, zW1 _ (by decide +kernel), zW1 _ (by decide +kernel)⟩
  | 4, h => cases h; exact ⟨zall a4, ⟨_, tyX4_ok⟩, nmX4, zW1 _ (by decide +kernel), zW1 _ (by decide +kernel)⟩
  | 5, h => cases h; exact ⟨zall a5, ⟨_, tyX5_ok⟩, nmX5, zW1 _ (by decide +kernel), zW1 _ (by decide +kernel)⟩
  | 6, h => cases h; exact ⟨zall a6, ⟨_, tyX6_ok⟩, nmX6, zW1 _ (by decide +kernel), zW1 _ (by decide +kernel)⟩
  | n + 7, h => simp [zcl] at h
theorem zfind {α : Type} {l : List α} {p : α → Bool} {q : α} (h : l.find? p = some q) : q ∈ l ∧ p q = true := ⟨List.mem_of_find?_eq_some h, List.find?_some h⟩
theorem zfl_ok {c ix ci j ty : Nat} {nest fin : Bool} (h : zfl c ix = some (ci, j, nest, fin, ty)) : ∃ C T N, zcl[ci]? = some (C, T, N) ∧ j < N ∧ (T j).1 = C ∧ (T j).2.2.2 = fin ∧ (if (T j).2.2.1 = "I" then 0 else if (T j).2.2.1 = "Z" then 1 else 2) = ty
    ∧ (nest = true → Cond.fieldLinkNest (znm c) ix C (T j).2.1 (T j).2.2.1 RX5 ∈ ztbN) ∧ (nest = false → Cond.fieldLink (znm c) ix C (T j).2.1 (T j).2.2.1 ∈ ztbG) := by
  unfold zfl at h
  obtain ⟨q, hq, he⟩ := Option.map_eq_some_iff.mp h
  obtain ⟨hm, hp⟩ := zfind hq
  have hc := List.all_eq_true.mp zflT_ok q hm
  obtain ⟨qc, qi, qci, qj, qn, qf, qt, qp⟩ := q
  simp only [Prod.mk.injEq] at he
  obtain ⟨rfl, rfl, rfl, rfl, rfl⟩ := he
  simp only [Bool.and_eq_true, beq_iff_eq] at hp
  obtain ⟨rfl, rfl⟩ := hp
  simp only [zfchk, Bool.and_eq_true, decide_eq_true_eq, beq_iff_eq] at hc
  obtain ⟨⟨⟨⟨⟨⟨c1, c2⟩, c3⟩, c4⟩, c5⟩, c6⟩, c7⟩ := hc
  refine ⟨_, _, _, zcl7 c3, c4, c5, c6, c7, fun hn => ?_, fun hn => ?_⟩
  · subst hn
    exact zN_of (w := Cond.fieldLinkNest _ _ _ _ _ _) (by rw [c1]; rfl) rfl
  · subst hn
    exact zG_of (w := Cond.fieldLink _ _ _ _ _) (by rw [c1]; rfl) c2
theorem zki_ok {c ix : Nat} {v : Int32} (h : zki c ix = some v) : Cond.constant (znm c) ix v ∈ ztbG := by
  obtain ⟨q, hq, he⟩ := Option.map_eq_some_iff.mp h
  obtain ⟨hm, hp⟩ := zfind hq
  have hc := List.all_eq_true.mp zkiT_ok q hm
  obtain ⟨qc, qi, qv, qp⟩ := q
  simp only [Bool.and_eq_true, beq_iff_eq] at hp
  obtain ⟨rfl, rfl⟩ := hp
  cases he
  exact zG_of (of_decide_eq_true hc) rfl
theorem zkL_ok {c ix : Nat} {v : Int64} (h : zkL c ix = some v) : Cond.constantLong (znm c) ix v ∈ ztbG := by
  obtain ⟨q, hq, he⟩ := Option.map_eq_some_iff.mp h
  obtain ⟨hm, hp⟩ := zfind hq
  have hc := List.all_eq_true.mp zklT_ok q hm
  obtain ⟨qc, qi, qv, qp⟩ := q
  simp only [Bool.and_eq_true, beq_iff_eq] at hp
  obtain ⟨rfl, rfl⟩ := hp
  cases he
  exact zG_of (of_decide_eq_true hc) rfl
theorem zkC_ok {c ix v : Nat} (h : zkC c ix = some v) : Cond.classLink (znm c) ix (znm v) ∈ ztbG := by
  obtain ⟨q, hq, he⟩ := Option.map_eq_some_iff.mp h
  obtain ⟨hm, hp⟩ := zfind hq
  have hc := List.all_eq_true.mp zclT_ok q hm
  obtain ⟨qc, qi, qv, qp⟩ := q
  simp only [Bool.and_eq_true, beq_iff_eq] at hp
  obtain ⟨rfl, rfl⟩ := hp
  cases he
  exact zG_of (of_decide_eq_true hc) rfl
/-! locals -/
theorem zset_len : ∀ (L : List (Option Value)) (i : Nat) (v : Value), (zset L i v).length = L.length
  | [], _, _ => rfl
  | _ :: _, 0, _ => rfl
  | _ :: L, i + 1, v => by simp [zset, zset_len L i v]
theorem zsetL_len : ∀ (L : List (Option Value)) (i : Nat) (v : Value), (zsetL L i v).length = L.length
  | [], _, _ => rfl
  | [_], 0, _ => rfl
  | _ :: _ :: _, 0, _ => rfl
  | _ :: L, i + 1, v => by simp [zsetL, zsetL_len L i v]
theorem zget_lt : ∀ {L : List (Option Value)} {j : Nat} {v : Value}, zget L j = some v → j < L.length
  | [], _, _, h => by simp [zget] at h
  | _ :: L, 0, _, _ => by simp
  | _ :: L, j + 1, _, h => by simp only [List.length_cons]; exact Nat.succ_lt_succ (zget_lt (L := L) h)
theorem zkl_some {a : Option Value} {i : Nat} {u : Value} (h : zkl a i = some u) : a = some u ∧ ¬ (i = 0 ∧ u.category = 2) := by
  unfold zkl at h
  split at h
  · cases h
  · cases h
  · next h1 h2 =>
    refine ⟨h, fun ⟨z, hc⟩ => ?_⟩
    subst z; subst h
    cases u with
    | long x => exact h1 x rfl rfl
    | double x => exact h2 x rfl rfl
    | _ => simp [Value.category] at hc
theorem zget_set : ∀ {L : List (Option Value)} {i j : Nat} {v u : Value}, zget (zset L i v) j = some u → (j = i ∧ u = v) ∨ (j ≠ i ∧ zget L j = some u ∧ ¬ (j + 1 = i ∧ u.category = 2))
  | [], _, _, _, _, h => by simp [zset, zget] at h
  | _ :: L, 0, 0, v, u, h => by simp [zset, zget] at h; exact Or.inl ⟨rfl, h.symm⟩
  | _ :: L, 0, j + 1, v, u, h => Or.inr ⟨by omega, h, by omega⟩
  | a :: L, i + 1, 0, v, u, h => by
    have := zkl_some (a := a) (i := i) (u := u) h
    exact Or.inr ⟨by omega, this.1, fun ⟨q, w⟩ => this.2 ⟨by omega, w⟩⟩
  | a :: L, i + 1, j + 1, v, u, h => by
    rcases zget_set (L := L) (i := i) (j := j) h with ⟨p, q⟩ | ⟨p, q, r⟩
    · exact Or.inl ⟨by omega, q⟩
    · exact Or.inr ⟨by omega, q, fun ⟨x, w⟩ => r ⟨by omega, w⟩⟩
theorem zget_setL : ∀ {L : List (Option Value)} {i j : Nat} {v u : Value}, zget (zsetL L i v) j = some u → (j = i ∧ u = v) ∨ (j ≠ i ∧ j ≠ i + 1 ∧ zget L j = some u ∧ ¬ (j + 1 = i ∧ u.category = 2))
  | [], _, _, _, _, h => by simp [zsetL, zget] at h
  | [_], 0, 0, v, u, h => by simp [zsetL, zget] at h
  | [_], 0, j + 1, v, u, h => by simp [zsetL, zget] at h
  | _ :: _ :: L, 0, 0, v, u, h => by simp [zsetL, zget] at h; exact Or.inl ⟨rfl, h.symm⟩
  | _ :: _ :: L, 0, 1, v, u, h => by simp [zsetL, zget] at h
  | _ :: _ :: L, 0, j + 2, v, u, h => Or.inr ⟨by omega, by omega, h, by omega⟩
  | a :: L, i + 1, 0, v, u, h => by
    have := zkl_some (a := a) (i := i) (u := u) (by simpa [zsetL, zget] using h)
    exact Or.inr ⟨by omega, by omega, this.1, fun ⟨q, w⟩ => this.2 ⟨by omega, w⟩⟩
  | a :: L, i + 1, j + 1, v, u, h => by
    rcases zget_setL (L := L) (i := i) (j := j) (v := v) (u := u) (by simpa [zsetL, zget] using h) with ⟨p, q⟩ | ⟨p, q, r, t⟩
    · exact Or.inl ⟨by omega, q⟩
    · exact Or.inr ⟨by omega, by omega, r, fun ⟨x, w⟩ => t ⟨by omega, w⟩⟩
def zprs (E : zE) (L : List (Option Value)) : List (Nat × Value) := (List.range L.length).filterMap (fun j => (zget L j).map (fun v => (j, zcv E v)))
theorem zprs_in {E : zE} {L : List (Option Value)} {j : Nat} {v : Value} (h : zget L j = some v) : (j, zcv E v) ∈ zprs E L := List.mem_filterMap.mpr ⟨j, List.mem_range.mpr (zget_lt h), by rw [h]; rfl⟩
theorem zprs_has {E : zE} {ls : Array Slot} {nL : Nat} {L : List (Option Value)} (h : zlv E ls nL L) : lv_has ls nL (zprs E L) := by
  refine ⟨h.1, h.2.1, fun q hq => ?_⟩
  obtain ⟨j, -, hj⟩ := List.mem_filterMap.mp hq
  obtain ⟨v, hv, rfl⟩ := Option.map_eq_some_iff.mp hj
  exact h.2.2.2 j v hv
theorem zlv_set {E : zE} {ls ls' : Array Slot} {nL i : Nat} {L : List (Option Value)} {v : Value} (h : zlv E ls nL L) (h' : lv_has ls' nL ((i, zcv E v) :: (zprs E L).filter (fun q => !(q.1 == i) && !(q.1 + 1 == i && q.2.category == 2)))) : zlv E ls' nL (zset L i v) := by
  refine ⟨h'.1, h'.2.1, by rw [zset_len]; exact h.2.2.1, fun j u hj => ?_⟩
  rcases zget_set hj with ⟨rfl, rfl⟩ | ⟨a, b, c⟩
  · exact h'.2.2 _ List.mem_cons_self
  · refine h'.2.2 (j, zcv E u) (List.mem_cons_of_mem _ (List.mem_filter.mpr ⟨zprs_in b, ?_⟩))
    simp only [Bool.and_eq_true, Bool.not_eq_true', beq_eq_false_iff_ne, ne_eq, Bool.and_eq_false_iff, zcv_cat]
    refine ⟨a, ?_⟩
    by_cases q : j + 1 = i
    · exact Or.inr (fun w => c ⟨q, w⟩)
    · exact Or.inl q
theorem zlv_setL {E : zE} {ls ls' : Array Slot} {nL i : Nat} {L : List (Option Value)} {v : Value} (h : zlv E ls nL L) (h' : lv_has ls' nL ((i, zcv E v) :: (zprs E L).filter (fun q => !(q.1 == i) && (!(q.1 == i + 1) && !(q.1 + 1 == i && q.2.category == 2))))) : zlv E ls' nL (zsetL L i v) := by
  refine ⟨h'.1, h'.2.1, by rw [zsetL_len]; exact h.2.2.1, fun j u hj => ?_⟩
  rcases zget_setL hj with ⟨rfl, rfl⟩ | ⟨a, a2, b, c⟩
  · exact h'.2.2 _ List.mem_cons_self
  · refine h'.2.2 (j, zcv E u) (List.mem_cons_of_mem _ (List.mem_filter.mpr ⟨zprs_in b, ?_⟩))
    simp only [Bool.and_eq_true, Bool.not_eq_true', beq_eq_false_iff_ne, ne_eq, Bool.and_eq_false_iff, zcv_cat]
    refine ⟨a, a2, ?_⟩
    by_cases q : j + 1 = i
    · exact Or.inr (fun w => c ⟨q, w⟩)
    · exact Or.inl q
theorem ztk_spec : ∀ {n : Nat} {acc st as rest : List Value}, ztk n acc st = some (as, rest) → as.reverse ++ rest = acc.reverse ++ st ∧ as.length = n + acc.length
  | 0, acc, st, as, rest, h => by simp only [ztk, Option.some.injEq, Prod.mk.injEq] at h; obtain ⟨rfl, rfl⟩ := h; simp
  | n + 1, acc, [], as, rest, h => by simp [ztk] at h
  | n + 1, acc, v :: st, as, rest, h => by
    obtain ⟨a, b⟩ := ztk_spec (n := n) (acc := v :: acc) (st := st) h
    refine ⟨by rw [a]; simp, by rw [b]; simp only [List.length_cons]; omega⟩
