/-! ===== soundness of one instruction ===== -/
theorem zfa_cv (E : zE) (x : Int32) (fk : Option (Option Nat)) (f : Nat → Int32) (j : Nat) : True := trivial
theorem zfk_some {sh : Nat → zShp} {n r ci j : Nat} {fk : Option (Option Nat)} (h : zfk sh n r ci j = some fk) : r < n ∧ ∃ ks, sh r = .inl (ci, ks) ∧ ks[j]? = some fk := by
  unfold zfk at h
  split at h
  · next hr =>
    split at h
    · next c ks hs =>
      split at h
      · next e => subst e; exact ⟨hr, ks, hs, h⟩
      · cases h
    · cases h
  · cases h
theorem zcn_some {sh : Nat → zShp} {n r c : Nat} (h : zcn sh n r = some c) : r < n ∧ ∃ ks, sh r = .inl (c, ks) := by
  unfold zcn at h
  split at h
  · next hr =>
    split at h
    · next c ks hs => cases h; exact ⟨hr, ks, hs⟩
    · cases h
  · cases h
theorem zas_some {sh : Nat → zShp} {n r k : Nat} (h : zas sh n r = some k) : r < n ∧ sh r = .inr (.inl k) := by
  unfold zas at h
  split at h
  · next hr =>
    split at h
    · next k hs => cases h; exact ⟨hr, hs⟩
    · cases h
  · cases h
theorem zrs_some {sh : Nat → zShp} {n r : Nat} {q : Nat × List (Option Nat)} (h : zrs sh n r = some q) : r < n ∧ sh r = .inr (.inr q) := by
  unfold zrs at h
  split at h
  · next hr =>
    split at h
    · next k hs => cases h; exact ⟨hr, hs⟩
    · cases h
  · cases h
theorem zdk_ty : ∀ ci : Fin 7, ∀ j : Fin 40, j.val < (zcl.getD ci.val (RX0, TX0, 14)).2.2 → (match parseFieldDescriptor ((zcl.getD ci.val (RX0, TX0, 14)).2.1 j.val).2.2.1 with
  | some .int => decide (((zcl.getD ci.val (RX0, TX0, 14)).2.1 j.val).2.2.1 = "I")
  | some .boolean => decide (((zcl.getD ci.val (RX0, TX0, 14)).2.1 j.val).2.2.1 = "Z")
  | some (.object _) => decide (((zcl.getD ci.val (RX0, TX0, 14)).2.1 j.val).2.2.1 ≠ "I" ∧ ((zcl.getD ci.val (RX0, TX0, 14)).2.1 j.val).2.2.1 ≠ "Z")
  | some (.array _) => decide (((zcl.getD ci.val (RX0, TX0, 14)).2.1 j.val).2.2.1 ≠ "I" ∧ ((zcl.getD ci.val (RX0, TX0, 14)).2.1 j.val).2.2.1 ≠ "Z")
  | _ => false) = true := by decide +kernel
theorem zcl_N : ∀ ci : Fin 7, (zcl.getD ci.val (RX0, TX0, 14)).2.2 ≤ 40 := by decide +kernel
theorem zty_cases {ci j : Nat} {C : String} {T : u_T} {N : Nat} (hc : zcl[ci]? = some (C, T, N)) (hj : j < N) : ∃ t, parseFieldDescriptor (T j).2.2.1 = some t ∧ ((t = .int ∧ (T j).2.2.1 = "I") ∨ (t = .boolean ∧ (T j).2.2.1 = "Z") ∨ ((∀ r, narrow t (.ref r) = .ref r) ∧ (∀ r, fits t (.ref r) = true) ∧ defaultValue t = .null ∧ (T j).2.2.1 ≠ "I" ∧ (T j).2.2.1 ≠ "Z")) := by
  have hlt : ci < 7 := by
    have := (List.getElem?_eq_some_iff.mp hc).1
    simpa [zcl] using this
  have e := (zcl7 hlt).symm.trans hc
  have e' := Option.some.inj e
  have hN := zcl_N ⟨ci, hlt⟩
  simp only [e'] at hN
  have h := zdk_ty ⟨ci, hlt⟩ ⟨j, by omega⟩ (by simp only [e']; exact hj)
  simp only [e'] at h
  cases hp : parseFieldDescriptor (T j).2.2.1 with
  | none => rw [hp] at h; simp at h
  | some t =>
    rw [hp] at h
    refine ⟨t, rfl, ?_⟩
    cases t <;> simp only [decide_eq_true_eq, Bool.false_eq_true] at h
    · exact Or.inl ⟨rfl, h⟩
    · exact Or.inr (Or.inl ⟨rfl, h⟩)
    · exact Or.inr (Or.inr ⟨fun _ => rfl, fun _ => rfl, rfl, h.1, h.2⟩)
    · exact Or.inr (Or.inr ⟨fun _ => rfl, fun _ => rfl, rfl, h.1, h.2⟩)
theorem zcellF (E : zE) {ci j : Nat} {ks : List (Option (Option Nat))} {f : Nat → Int32} {x : Int32} (h : ks[j]? = some none) : ks.mapIdx (fun i k => zcv E (zfa (upd f j x i) k)) = (ks.mapIdx (fun i k => zcv E (zfa (f i) k))).set j (.int x) := by
  apply List.ext_getElem?
  intro i
  by_cases hi : i = j
  · subst hi
    have hl : i < ks.length := (List.getElem?_eq_some_iff.mp h).1
    rw [List.getElem?_mapIdx, h, List.getElem?_set_self (by simpa using hl)]
    simp [zfa, zcv, upd]
  · rw [List.getElem?_set_ne (fun q => hi q.symm), List.getElem?_mapIdx, List.getElem?_mapIdx]
    simp [upd, hi]
theorem zcellR (E : zE) {j q : Nat} {ks : List (Option (Option Nat))} {f : Nat → Int32} {z : Option Nat} (h : ks[j]? = some (some z)) : (ks.set j (some (some q))).mapIdx (fun i k => zcv E (zfa (f i) k)) = (ks.mapIdx (fun i k => zcv E (zfa (f i) k))).set j (.ref (zad E q)) := by
  apply List.ext_getElem?
  intro i
  by_cases hi : i = j
  · subst hi
    have hl : i < ks.length := (List.getElem?_eq_some_iff.mp h).1
    rw [List.getElem?_mapIdx, List.getElem?_set_self hl, List.getElem?_set_self (by simpa using hl)]
    rfl
  · rw [List.getElem?_set_ne (fun q => hi q.symm), List.getElem?_mapIdx, List.getElem?_mapIdx, List.getElem?_set_ne (fun q => hi q.symm)]
theorem zmapIdx {E : zE} {j : Nat} {ks : List (Option (Option Nat))} {f : Nat → Int32} {fk : Option (Option Nat)} (h : ks[j]? = some fk) : (ks.mapIdx (fun i k => zcv E (zfa (f i) k)))[j]? = some (zcv E (zfa (f j) fk)) := by
  rw [List.getElem?_mapIdx, h]
  rfl
section ZS
variable {E : zE} {p : Program} {e : Env} {R : Room} {s : State} {m : MethodId} {args : Array Value} {below : List Frame} {meth : Method} {cd : Code} {Q : State → Prop} {c nL : Nat} {cc : ByteArray} {rt : Option FieldType} {ini : Bool} {S : zSs} {RC RS mc ms k0 : Nat} {Post : zPo}
theorem zobj_at {sh : Nat → zShp} {n : Nat} {I F : zI} {r ci : Nat} {ks : List (Option (Option Nat))} (hr : r < n) (hs : sh r = .inl (ci, ks)) : (zws E sh n I F)[r]? = some (zeB E + r, .inr (ci, ks.mapIdx (fun i k => zcv E (zfa (F r i) k)))) := by
  rw [zws_get hr, hs]; rfl
theorem zarr_at {sh : Nat → zShp} {n : Nat} {I F : zI} {r k : Nat} (hr : r < n) (hs : sh r = .inr (.inl k)) : (zws E sh n I F)[r]? = some (zeB E + r, .inl (zeA E, k, .inl (I r))) := by
  rw [zws_get hr, hs]; rfl
theorem zrow_at {sh : Nat → zShp} {n : Nat} {I F : zI} {r t : Nat} {rs : List (Option Nat)} (hr : r < n) (hs : sh r = .inr (.inr (t, rs))) : (zws E sh n I F)[r]? = some (zeB E + r, .inl (zeR E t, rs.length, .inr (.inr (.inr (.inr (fun i => (rs.getD i none).map (zad E))))))) := by
  rw [zws_get hr, hs]; rfl
theorem zsz {sh : Nat → zShp} {n : Nat} {I F : zI} {H : Heap} {lo : List Loc} (hI : zIn E s sh n I F H lo) {H1 : Heap} {lo1 : List Loc} (hz : H1.size = H.size) {sh' : Nat → zShp} {I' F' : zI} (hP : va_P (zeG E) zcl (zws E sh' n I' F') H1) (hS : va_S (zA E) s.heap H1 lo1) : zIn E s sh' n I' F' H1 lo1 := ⟨⟨hP, by rw [hz]; exact hI.1.2.1, hI.1.2.2⟩, hS⟩

theorem zfix {sh : Nat → zShp} {n : Nat} {I F : zI} {H1 : Heap} {lo : List Loc} {cs zs : Nat} {g : JFrame} (hP : va_P (zeG E) zcl (zws E sh n I F) H1) (hS : va_S (zA E) s.heap H1 lo) (hn : s.heap.size + cs = zeB E + n) (hB : zeB E ≤ s.heap.size) (k : H1.size = zeB E + n → W p (zel E) e R s m args below meth cd H1 lo cs zs Q g) : W p (zel E) e R s m args below meth cd H1 lo cs zs Q g := by
  intro T hT X
  have h1 := X.heapSize
  rw [hT] at h1
  have h2 : zeB E + n ≤ H1.size := by
    cases n with
    | zero => exact Nat.le_trans hB hS.1
    | succ n =>
      have := (hP n _ (zws_get (Nat.lt_succ_self n))).lt
      simp only at this
      omega
  exact k (by omega) T hT X
theorem zqret {v : Option Value} {sh : Nat → zShp} {n : Nat} {I F : zI} {H : Heap} {lo : List Loc} (TB : zTb E s) (hI : zIn E s sh n I F H lo) (h : Post v sh n I F) : ∀ t : State, t.heap = H → s.WarmedH t.vm → zQ E Post args s (.returned (v.map (zcv E))) t := fun t ht hW => ⟨⟨v, sh, n, I, F, rfl, h, zTb_to TB hI.2 ht hW, by rw [ht]; exact hI.1⟩, hI.2.F ht⟩
theorem znb {v : Int32} (h : v = 0 ∨ v = 1) : narrow .boolean (.int v) = .int v := by rcases h with rfl | rfl <;> rfl
theorem zfb {v : Int32} (h : v = 0 ∨ v = 1) : fits .boolean (.int v) = true := by rcases h with rfl | rfl <;> rfl
theorem zZ_at (TB : zTb E s) {sh : Nat → zShp} {n : Nat} {I F : zI} {H : Heap} {lo : List Loc} (hI : zIn E s sh n I F H lo) {cc : ByteArray} (hx : p.tables.exec = Jvm.exec) (hb : cd.code = cc) {r len : Nat} {f : Nat → Int32} (hr : zal E sh n I r = some (len, f)) {i : Int32} (hi : vp_in i len) {pc : Nat} {ls : Array Slot} {rest : List Value} {cs zs : Nat} (hd : decode cc pc = .ok (.iaload, 1))
    (k : W p (zel E) e R s m args below meth cd H lo cs zs Q (F0 m (pc + 1) ls (.int (f i.toNatClampNeg) :: rest))) : W p (zel E) e R s m args below meth cd H lo cs zs Q (F0 m pc ls (.int i :: .ref (zad E r) :: rest)) := by
  obtain ⟨hK, hN, h4, h2, hZ, hX, hXl, hY, hYl, hB⟩ := TB
  unfold zal at hr
  split at hr
  · next e => subst e; cases hr; exact va_sld hx hb hX (Nat.lt_of_lt_of_le hXl hB) (Nat.not_le.mpr hXl) hI.2 hi hd k
  · split at hr
    · next e => subst e; cases hr; exact va_sld hx hb hY (Nat.lt_of_lt_of_le hYl hB) (Nat.not_le.mpr hYl) hI.2 hi hd k
    · split at hr
      · next hn =>
        split at hr
        · next kk hs =>
          cases hr
          rw [zad_lt (Nat.lt_of_lt_of_le hn hI.1.2.2)]
          exact va_iald hx hb hK hI.1.1 r 0 (zarr_at hn hs) rfl hi hd k
        · cases hr
      · cases hr
theorem zZ_len (TB : zTb E s) {sh : Nat → zShp} {n : Nat} {I F : zI} {H : Heap} {lo : List Loc} (hI : zIn E s sh n I F H lo) {cc : ByteArray} (hx : p.tables.exec = Jvm.exec) (hb : cd.code = cc) {r len : Nat} {f : Nat → Int32} (hr : zal E sh n I r = some (len, f)) {pc : Nat} {ls : Array Slot} {rest : List Value} {cs zs : Nat} (hd : decode cc pc = .ok (.arraylength, 1))
    (k : W p (zel E) e R s m args below meth cd H lo cs zs Q (F0 m (pc + 1) ls (.int (Int32.ofNat len) :: rest))) : W p (zel E) e R s m args below meth cd H lo cs zs Q (F0 m pc ls (.ref (zad E r) :: rest)) := by
  obtain ⟨hK, hN, h4, h2, hZ, hX, hXl, hY, hYl, hB⟩ := TB
  unfold zal at hr
  split at hr
  · next e => subst e; cases hr; exact va_slen hx hb hX (Nat.lt_of_lt_of_le hXl hB) (Nat.not_le.mpr hXl) hI.2 hd k
  · split at hr
    · next e => subst e; cases hr; exact va_slen hx hb hY (Nat.lt_of_lt_of_le hYl hB) (Nat.not_le.mpr hYl) hI.2 hd k
    · split at hr
      · next hn =>
        split at hr
        · next kk hs =>
          cases hr
          rw [zad_lt (Nat.lt_of_lt_of_le hn hI.1.2.2)]
          exact va_alen hx hb hK hI.1.1 r 0 (zarr_at hn hs) rfl rfl hd k
        · cases hr
      · cases hr
end ZS
