theorem zcl_nm {ci : Nat} {C : String} {T : u_T} {N : Nat} (h : zcl[ci]? = some (C, T, N)) : znm ci = C := by
  match ci, h with
  | 0, h => cases h; rfl
  | 1, h => cases h; rfl
  | 2, h => cases h; rfl
  | 3, h => cases h; rfl
  | 4, h => cases h; rfl
  | 5, h => cases h; rfl
  | 6, h => cases h; rfl
  | n + 7, h => simp [zcl] at h
section ZT
variable {E : zE} {p : Program} {e : Env} {R : Room} {s : State} {m : MethodId} {args : Array Value} {below : List Frame} {meth : Method} {cd : Code} {c nL : Nat} {cc : ByteArray} {rt : Option FieldType} {ini : Bool} {S : zSs} {RC RS mc ms k0 : Nat} {Post : zPo}
set_option maxHeartbeats 4000000 in
theorem zins_ok (X : zCx c cc nL rt ini p s m args meth cd) (TB : zTb E s) (hRm : zRm R RC RS k0) (hSo : zSok E k0 S) {i : Instr} {w : Nat} {k : zK} {pc : Nat} {L : List (Option Value)} {st : List Value} {sh : Nat → zShp} {n : Nat} {I F : zI} {cs zs : Nat}
    (hd : decode cc pc = .ok (i, w)) (h : zins E c ini rt S RC RS mc ms Post i w k pc L st sh n I F cs zs)
    (hk : ∀ pc L st sh n I F cs zs, k pc L st sh n I F cs zs → zWv E p e R s m args below meth cd nL (MQ below (zQ E Post) args s mc ms (zA E)) pc L st sh n I F cs zs) : zWv E p e R s m args below meth cd nL (MQ below (zQ E Post) args s mc ms (zA E)) pc L st sh n I F cs zs := by
  obtain ⟨hx, hb, hml, hown, hts, hr, hlk, hini⟩ := X
  obtain ⟨hRC, hRS, hRf, hRl⟩ := hRm
  have hK := TB.1
  unfold zins at h
  split at h
  · obtain ⟨rfl, h⟩ := h
    intro H lo ls hI hv hn
    exact lv_iconst hx hb hd rfl (hk _ _ _ _ _ _ _ _ _ h _ _ _ hI hv hn)
  · obtain ⟨rfl, h⟩ := h
    intro H lo ls hI hv hn
    exact lv_bipush hx hb hd rfl (hk _ _ _ _ _ _ _ _ _ h _ _ _ hI hv hn)
  · obtain ⟨rfl, h⟩ := h
    intro H lo ls hI hv hn
    exact lv_sipush hx hb hd rfl (hk _ _ _ _ _ _ _ _ _ h _ _ _ hI hv hn)
  · obtain ⟨rfl, h⟩ := h
    intro H lo ls hI hv hn
    exact lv_lconst hx hb hd rfl (hk _ _ _ _ _ _ _ _ _ h _ _ _ hI hv hn)
  · obtain ⟨rfl, h⟩ := h
    split at h
    · next v he =>
      intro H lo ls hI hv hn
      exact lv_ldc hx hb hown (hts _ (zki_ok he)) hd (hk _ _ _ _ _ _ _ _ _ h _ _ _ hI hv hn)
    · exact h.elim
  · obtain ⟨rfl, h⟩ := h
    split at h
    · next v he =>
      intro H lo ls hI hv hn
      exact lv_ldcw hx hb hown (hts _ (zki_ok he)) hd (hk _ _ _ _ _ _ _ _ _ h _ _ _ hI hv hn)
    · exact h.elim
  · obtain ⟨rfl, h⟩ := h
    split at h
    · next v he =>
      intro H lo ls hI hv hn
      exact lv_ldc2 hx hb hown (hts _ (zkL_ok he)) hd (hk _ _ _ _ _ _ _ _ _ h _ _ _ hI hv hn)
    · exact h.elim
  · obtain ⟨rfl, h⟩ := h
    split at h
    · next x hg =>
      intro H lo ls hI hv hn
      exact lv_iload hx hb hd (hv.2.2.2 _ _ hg) (hk _ _ _ _ _ _ _ _ _ h _ _ _ hI hv hn)
    · exact h.elim
  · split at h
    · obtain ⟨rfl, hlt, h⟩ := h
      intro H lo ls hI hv hn
      exact lv_istore (nL := nL) (lv := zprs E L) hx hb hd (zprs_has hv) (by rw [← hv.2.2.1]; exact hlt) rfl (fun ls2 h2 => hk _ _ _ _ _ _ _ _ _ h _ _ _ hI (zlv_set hv h2) hn)
    · exact h.elim
  · obtain ⟨rfl, h⟩ := h
    split at h
    · next x hg =>
      intro H lo ls hI hv hn
      exact lv_iload_n hx hb hd rfl (hv.2.2.2 _ _ hg) (hk _ _ _ _ _ _ _ _ _ h _ _ _ hI hv hn)
    · exact h.elim
  · split at h
    · obtain ⟨rfl, hlt, h⟩ := h
      intro H lo ls hI hv hn
      exact lv_istore_n (nL := nL) (lv := zprs E L) hx hb hd rfl (zprs_has hv) (by rw [← hv.2.2.1]; exact hlt) rfl (fun ls2 h2 => hk _ _ _ _ _ _ _ _ _ h _ _ _ hI (zlv_set hv h2) hn)
    · exact h.elim
  · obtain ⟨rfl, h⟩ := h
    split at h
    · next x hg =>
      intro H lo ls hI hv hn
      exact lv_lload hx hb hd (hv.2.2.2 _ _ hg) (hk _ _ _ _ _ _ _ _ _ h _ _ _ hI hv hn)
    · exact h.elim
  · split at h
    · obtain ⟨rfl, hlt, h⟩ := h
      intro H lo ls hI hv hn
      exact lv_lstore (nL := nL) (lv := zprs E L) hx hb hd (zprs_has hv) (by rw [← hv.2.2.1]; exact hlt) rfl (fun ls2 h2 => hk _ _ _ _ _ _ _ _ _ h _ _ _ hI (zlv_setL hv h2) hn)
    · exact h.elim
  · obtain ⟨rfl, h⟩ := h
    split at h
    · next x hg =>
      intro H lo ls hI hv hn
      exact lv_lload_n hx hb hd rfl (hv.2.2.2 _ _ hg) (hk _ _ _ _ _ _ _ _ _ h _ _ _ hI hv hn)
    · exact h.elim
  · split at h
    · obtain ⟨rfl, hlt, h⟩ := h
      intro H lo ls hI hv hn
      exact lv_lstore_n (nL := nL) (lv := zprs E L) hx hb hd rfl (zprs_has hv) (by rw [← hv.2.2.1]; exact hlt) rfl (fun ls2 h2 => hk _ _ _ _ _ _ _ _ _ h _ _ _ hI (zlv_setL hv h2) hn)
    · exact h.elim
  · obtain ⟨rfl, h⟩ := h
    split at h
    · next x hg =>
      intro H lo ls hI hv hn
      exact lv_aload hx hb hd (hv.2.2.2 _ _ hg) (hk _ _ _ _ _ _ _ _ _ h _ _ _ hI hv hn)
    · exact h.elim
  · split at h
    · obtain ⟨rfl, hlt, h⟩ := h
      intro H lo ls hI hv hn
      exact lv_astore (nL := nL) (lv := zprs E L) hx hb hd (zprs_has hv) (by rw [← hv.2.2.1]; exact hlt) rfl (fun ls2 h2 => hk _ _ _ _ _ _ _ _ _ h _ _ _ hI (zlv_set hv h2) hn)
    · exact h.elim
  · obtain ⟨rfl, h⟩ := h
    split at h
    · next x hg =>
      intro H lo ls hI hv hn
      exact lv_aload_n hx hb hd rfl (hv.2.2.2 _ _ hg) (hk _ _ _ _ _ _ _ _ _ h _ _ _ hI hv hn)
    · exact h.elim
  · split at h
    · obtain ⟨rfl, hlt, h⟩ := h
      intro H lo ls hI hv hn
      exact lv_astore_n (nL := nL) (lv := zprs E L) hx hb hd rfl (zprs_has hv) (by rw [← hv.2.2.1]; exact hlt) rfl (fun ls2 h2 => hk _ _ _ _ _ _ _ _ _ h _ _ _ hI (zlv_set hv h2) hn)
    · exact h.elim
  · obtain ⟨rfl, h⟩ := h
    split at h
    · next x hg =>
      intro H lo ls hI hv hn
      obtain ⟨kk, hkk⟩ := List.getElem?_of_mem (zprs_in (E := E) hg)
      exact lv_iinc (nL := nL) (lv := zprs E L) hx hb hd (zprs_has hv) hkk rfl (by rw [← hv.2.2.1]; exact zget_lt hg) rfl (fun ls2 h2 => hk _ _ _ _ _ _ _ _ _ h _ _ _ hI (zlv_set (v := .int _) hv h2) hn)
    · exact h.elim
  · split at h
    · obtain ⟨rfl, h⟩ := h
      intro H lo ls hI hv hn
      exact lv_iadd hx hb hd (hk _ _ _ _ _ _ _ _ _ h _ _ _ hI hv hn)
    · exact h.elim
  · split at h
    · obtain ⟨rfl, h⟩ := h
      intro H lo ls hI hv hn
      exact lv_isub hx hb hd (hk _ _ _ _ _ _ _ _ _ h _ _ _ hI hv hn)
    · exact h.elim
  · split at h
    · obtain ⟨rfl, h⟩ := h
      intro H lo ls hI hv hn
      exact lv_imul hx hb hd (hk _ _ _ _ _ _ _ _ _ h _ _ _ hI hv hn)
    · exact h.elim
  · split at h
    · obtain ⟨rfl, h⟩ := h
      intro H lo ls hI hv hn
      exact lv_iand hx hb hd (hk _ _ _ _ _ _ _ _ _ h _ _ _ hI hv hn)
    · exact h.elim
  · split at h
    · obtain ⟨rfl, h⟩ := h
      intro H lo ls hI hv hn
      exact lv_ior hx hb hd (hk _ _ _ _ _ _ _ _ _ h _ _ _ hI hv hn)
    · exact h.elim
  · split at h
    · obtain ⟨rfl, h⟩ := h
      intro H lo ls hI hv hn
      exact lv_ixor hx hb hd (hk _ _ _ _ _ _ _ _ _ h _ _ _ hI hv hn)
    · exact h.elim
  · split at h
    · obtain ⟨rfl, h⟩ := h
      intro H lo ls hI hv hn
      exact lv_ishl hx hb hd (hk _ _ _ _ _ _ _ _ _ h _ _ _ hI hv hn)
    · exact h.elim
  · split at h
    · obtain ⟨rfl, h⟩ := h
      intro H lo ls hI hv hn
      exact lv_ishr hx hb hd (hk _ _ _ _ _ _ _ _ _ h _ _ _ hI hv hn)
    · exact h.elim
  · split at h
    · obtain ⟨rfl, h⟩ := h
      intro H lo ls hI hv hn
      exact lv_iushr hx hb hd rfl (hk _ _ _ _ _ _ _ _ _ h _ _ _ hI hv hn)
    · exact h.elim
  · split at h
    · obtain ⟨rfl, h⟩ := h
      intro H lo ls hI hv hn
      exact lv_ladd hx hb hd (hk _ _ _ _ _ _ _ _ _ h _ _ _ hI hv hn)
    · exact h.elim
  · split at h
    · obtain ⟨rfl, h⟩ := h
      intro H lo ls hI hv hn
      exact lv_lsub hx hb hd (hk _ _ _ _ _ _ _ _ _ h _ _ _ hI hv hn)
    · exact h.elim
  · split at h
    · obtain ⟨rfl, h⟩ := h
      intro H lo ls hI hv hn
      exact lv_lmul hx hb hd (hk _ _ _ _ _ _ _ _ _ h _ _ _ hI hv hn)
    · exact h.elim
  · split at h
    · obtain ⟨rfl, h⟩ := h
      intro H lo ls hI hv hn
      exact lv_land hx hb hd (hk _ _ _ _ _ _ _ _ _ h _ _ _ hI hv hn)
    · exact h.elim
  · split at h
    · obtain ⟨rfl, hne, h⟩ := h
      intro H lo ls hI hv hn
      exact lv_idiv hx hb hd hne (hk _ _ _ _ _ _ _ _ _ h _ _ _ hI hv hn)
    · exact h.elim
  · split at h
    · obtain ⟨rfl, hne, h⟩ := h
      intro H lo ls hI hv hn
      exact lv_irem hx hb hd hne (hk _ _ _ _ _ _ _ _ _ h _ _ _ hI hv hn)
    · exact h.elim
  · split at h
    · obtain ⟨rfl, hne, h⟩ := h
      intro H lo ls hI hv hn
      exact lv_ldiv hx hb hd hne (hk _ _ _ _ _ _ _ _ _ h _ _ _ hI hv hn)
    · exact h.elim
  · split at h
    · obtain ⟨rfl, hne, h⟩ := h
      intro H lo ls hI hv hn
      exact lv_lrem hx hb hd hne (hk _ _ _ _ _ _ _ _ _ h _ _ _ hI hv hn)
    · exact h.elim
  · split at h
    · obtain ⟨rfl, h⟩ := h
      intro H lo ls hI hv hn
      exact lv_lshl hx hb hd rfl (hk _ _ _ _ _ _ _ _ _ h _ _ _ hI hv hn)
    · exact h.elim
  · split at h
    · obtain ⟨rfl, h⟩ := h
      intro H lo ls hI hv hn
      exact lv_lshr hx hb hd rfl (hk _ _ _ _ _ _ _ _ _ h _ _ _ hI hv hn)
    · exact h.elim
  · split at h
    · obtain ⟨rfl, h⟩ := h
      intro H lo ls hI hv hn
      exact W.lcmp hx hb hd (hk _ _ _ _ _ _ _ _ _ h _ _ _ hI hv hn)
    · exact h.elim
  · split at h
    · obtain ⟨rfl, h⟩ := h
      intro H lo ls hI hv hn
      exact lv_i2l hx hb hd rfl (hk _ _ _ _ _ _ _ _ _ h _ _ _ hI hv hn)
    · exact h.elim
  · split at h
    · obtain ⟨rfl, h⟩ := h
      intro H lo ls hI hv hn
      exact lv_i2b hx hb hd rfl (hk _ _ _ _ _ _ _ _ _ h _ _ _ hI hv hn)
    · exact h.elim
  · split at h
    · obtain ⟨rfl, h⟩ := h
      intro H lo ls hI hv hn
      exact lv_i2s hx hb hd rfl (hk _ _ _ _ _ _ _ _ _ h _ _ _ hI hv hn)
    · exact h.elim
  · split at h
    · obtain ⟨rfl, hc, h⟩ := h
      intro H lo ls hI hv hn
      exact lv_pop hx hb hd (by rw [zcv_cat]; exact hc) (hk _ _ _ _ _ _ _ _ _ h _ _ _ hI hv hn)
    · exact h.elim
  · split at h
    · obtain ⟨rfl, hc, h⟩ := h
      intro H lo ls hI hv hn
      exact lv_dup hx hb hd (by rw [zcv_cat]; exact hc) (hk _ _ _ _ _ _ _ _ _ h _ _ _ hI hv hn)
    · exact h.elim
  · split at h
    · obtain ⟨rfl, hc, hc2, h⟩ := h
      intro H lo ls hI hv hn
      exact lv_dup2_11 hx hb hd (by rw [zcv_cat]; exact hc) (by rw [zcv_cat]; exact hc2) (hk _ _ _ _ _ _ _ _ _ h _ _ _ hI hv hn)
    · exact h.elim
  · obtain ⟨rfl, hj, h⟩ := h
    intro H lo ls hI hv hn
    exact lv_goto (tgt := zjm pc _) hx hb hd (Int.toNat_of_nonneg hj).symm (hk _ _ _ _ _ _ _ _ _ h _ _ _ hI hv hn)
  · split at h
    · obtain ⟨rfl, hj, h⟩ := h
      intro H lo ls hI hv hn
      split at h
      · next hc => exact lv_if_eq (tgt := zjm pc _) hx hb hd (Int.toNat_of_nonneg hj).symm (fun _ => hk _ _ _ _ _ _ _ _ _ h _ _ _ hI hv hn) (fun hc2 => absurd hc hc2)
      · next hc => exact lv_if_eq (tgt := zjm pc _) hx hb hd (Int.toNat_of_nonneg hj).symm (fun hc2 => absurd hc2 hc) (fun _ => hk _ _ _ _ _ _ _ _ _ h _ _ _ hI hv hn)
    · exact h.elim
  · split at h
    · obtain ⟨rfl, hj, h⟩ := h
      intro H lo ls hI hv hn
      split at h
      · next hc => exact lv_if_ne (tgt := zjm pc _) hx hb hd (Int.toNat_of_nonneg hj).symm (fun _ => hk _ _ _ _ _ _ _ _ _ h _ _ _ hI hv hn) (fun hc2 => absurd hc2 hc)
      · next hc => exact lv_if_ne (tgt := zjm pc _) hx hb hd (Int.toNat_of_nonneg hj).symm (fun hc2 => absurd hc2 hc) (fun _ => hk _ _ _ _ _ _ _ _ _ h _ _ _ hI hv hn)
    · exact h.elim
  · split at h
    · obtain ⟨rfl, hj, h⟩ := h
      intro H lo ls hI hv hn
      split at h
      · next hc => exact lv_if_lt (tgt := zjm pc _) hx hb hd (Int.toNat_of_nonneg hj).symm (fun _ => hk _ _ _ _ _ _ _ _ _ h _ _ _ hI hv hn) (fun hc2 => absurd hc hc2)
      · next hc => exact lv_if_lt (tgt := zjm pc _) hx hb hd (Int.toNat_of_nonneg hj).symm (fun hc2 => absurd hc2 hc) (fun _ => hk _ _ _ _ _ _ _ _ _ h _ _ _ hI hv hn)
    · exact h.elim
  · split at h
    · obtain ⟨rfl, hj, h⟩ := h
      intro H lo ls hI hv hn
      split at h
      · next hc => exact lv_if_ge (tgt := zjm pc _) hx hb hd (Int.toNat_of_nonneg hj).symm (fun _ => hk _ _ _ _ _ _ _ _ _ h _ _ _ hI hv hn) (fun hc2 => absurd hc hc2)
      · next hc => exact lv_if_ge (tgt := zjm pc _) hx hb hd (Int.toNat_of_nonneg hj).symm (fun hc2 => absurd hc2 hc) (fun _ => hk _ _ _ _ _ _ _ _ _ h _ _ _ hI hv hn)
    · exact h.elim
  · split at h
    · obtain ⟨rfl, hj, h⟩ := h
      intro H lo ls hI hv hn
      split at h
      · next hc => exact lv_if_gt (tgt := zjm pc _) hx hb hd (Int.toNat_of_nonneg hj).symm (fun _ => hk _ _ _ _ _ _ _ _ _ h _ _ _ hI hv hn) (fun hc2 => absurd hc hc2)
      · next hc => exact lv_if_gt (tgt := zjm pc _) hx hb hd (Int.toNat_of_nonneg hj).symm (fun hc2 => absurd hc2 hc) (fun _ => hk _ _ _ _ _ _ _ _ _ h _ _ _ hI hv hn)
    · exact h.elim
  · split at h
    · obtain ⟨rfl, hj, h⟩ := h
      intro H lo ls hI hv hn
      split at h
      · next hc => exact lv_if_le (tgt := zjm pc _) hx hb hd (Int.toNat_of_nonneg hj).symm (fun _ => hk _ _ _ _ _ _ _ _ _ h _ _ _ hI hv hn) (fun hc2 => absurd hc hc2)
      · next hc => exact lv_if_le (tgt := zjm pc _) hx hb hd (Int.toNat_of_nonneg hj).symm (fun hc2 => absurd hc2 hc) (fun _ => hk _ _ _ _ _ _ _ _ _ h _ _ _ hI hv hn)
    · exact h.elim
  · split at h
    · obtain ⟨rfl, hj, h⟩ := h
      intro H lo ls hI hv hn
      split at h
      · next hc => exact lv_icmp_eq (tgt := zjm pc _) hx hb hd (Int.toNat_of_nonneg hj).symm (fun _ => hk _ _ _ _ _ _ _ _ _ h _ _ _ hI hv hn) (fun hc2 => absurd hc hc2)
      · next hc => exact lv_icmp_eq (tgt := zjm pc _) hx hb hd (Int.toNat_of_nonneg hj).symm (fun hc2 => absurd hc2 hc) (fun _ => hk _ _ _ _ _ _ _ _ _ h _ _ _ hI hv hn)
    · exact h.elim
  · split at h
    · obtain ⟨rfl, hj, h⟩ := h
      intro H lo ls hI hv hn
      split at h
      · next hc => exact lv_icmp_ne (tgt := zjm pc _) hx hb hd (Int.toNat_of_nonneg hj).symm (fun _ => hk _ _ _ _ _ _ _ _ _ h _ _ _ hI hv hn) (fun hc2 => absurd hc2 hc)
      · next hc => exact lv_icmp_ne (tgt := zjm pc _) hx hb hd (Int.toNat_of_nonneg hj).symm (fun hc2 => absurd hc2 hc) (fun _ => hk _ _ _ _ _ _ _ _ _ h _ _ _ hI hv hn)
    · exact h.elim
  · split at h
    · obtain ⟨rfl, hj, h⟩ := h
      intro H lo ls hI hv hn
      split at h
      · next hc => exact lv_icmp_lt (tgt := zjm pc _) hx hb hd (Int.toNat_of_nonneg hj).symm (fun _ => hk _ _ _ _ _ _ _ _ _ h _ _ _ hI hv hn) (fun hc2 => absurd hc hc2)
      · next hc => exact lv_icmp_lt (tgt := zjm pc _) hx hb hd (Int.toNat_of_nonneg hj).symm (fun hc2 => absurd hc2 hc) (fun _ => hk _ _ _ _ _ _ _ _ _ h _ _ _ hI hv hn)
    · exact h.elim
  · split at h
    · obtain ⟨rfl, hj, h⟩ := h
      intro H lo ls hI hv hn
      split at h
      · next hc => exact lv_icmp_ge (tgt := zjm pc _) hx hb hd (Int.toNat_of_nonneg hj).symm (fun _ => hk _ _ _ _ _ _ _ _ _ h _ _ _ hI hv hn) (fun hc2 => absurd hc hc2)
      · next hc => exact lv_icmp_ge (tgt := zjm pc _) hx hb hd (Int.toNat_of_nonneg hj).symm (fun hc2 => absurd hc2 hc) (fun _ => hk _ _ _ _ _ _ _ _ _ h _ _ _ hI hv hn)
    · exact h.elim
  · split at h
    · obtain ⟨rfl, hj, h⟩ := h
      intro H lo ls hI hv hn
      split at h
      · next hc => exact lv_icmp_gt (tgt := zjm pc _) hx hb hd (Int.toNat_of_nonneg hj).symm (fun _ => hk _ _ _ _ _ _ _ _ _ h _ _ _ hI hv hn) (fun hc2 => absurd hc hc2)
      · next hc => exact lv_icmp_gt (tgt := zjm pc _) hx hb hd (Int.toNat_of_nonneg hj).symm (fun hc2 => absurd hc2 hc) (fun _ => hk _ _ _ _ _ _ _ _ _ h _ _ _ hI hv hn)
    · exact h.elim
  · split at h
    · obtain ⟨rfl, hj, h⟩ := h
      intro H lo ls hI hv hn
      split at h
      · next hc => exact lv_icmp_le (tgt := zjm pc _) hx hb hd (Int.toNat_of_nonneg hj).symm (fun _ => hk _ _ _ _ _ _ _ _ _ h _ _ _ hI hv hn) (fun hc2 => absurd hc hc2)
      · next hc => exact lv_icmp_le (tgt := zjm pc _) hx hb hd (Int.toNat_of_nonneg hj).symm (fun hc2 => absurd hc2 hc) (fun _ => hk _ _ _ _ _ _ _ _ _ h _ _ _ hI hv hn)
    · exact h.elim
  · split at h
    · obtain ⟨hj, h⟩ := h
      intro H lo ls hI hv hn
      split at h
      · next hc => exact lv_tableOut (tgt := zjm pc _) hx hb hd hc (Int.toNat_of_nonneg hj).symm (hk _ _ _ _ _ _ _ _ _ h _ _ _ hI hv hn)
      · next hc =>
        split at h
        · next off ho =>
          obtain ⟨hj, h⟩ := h
          exact lv_tableIn (tgt := zjm pc off) hx hb hd (fun q => hc (Or.inl q)) (fun q => hc (Or.inr q)) ho (Int.toNat_of_nonneg hj).symm (hk _ _ _ _ _ _ _ _ _ h _ _ _ hI hv hn)
        · exact h.elim
    · exact h.elim
  · split at h
    · obtain ⟨rfl, hrt, h1, h2, h⟩ := h
      intro H lo ls hI hv hn
      refine W.widen h1 h2 ?_
      rcases hrt with rfl | ⟨rfl, hv01⟩
      · exact W.iret hx hb hr (zqret (v := some (.int _)) TB hI h) hI.2.2.2 hd hlk
      · exact W.zret hx hb hr (znb hv01) (zqret (v := some (.int _)) TB hI h) hI.2.2.2 hd hlk
    · exact h.elim
  · split at h
    · obtain ⟨rfl, rfl, h1, h2, h⟩ := h
      intro H lo ls hI hv hn
      refine W.widen h1 h2 ?_
      exact W.lret hx hb hr (zqret (v := some (.long _)) TB hI h) hI.2.2.2 hd hlk
    · exact h.elim
  · split at h
    · obtain ⟨rfl, rfl, h1, h2, h⟩ := h
      intro H lo ls hI hv hn
      refine W.widen h1 h2 ?_
      exact W.vret hx hb hr (zqret (v := none) TB hI h) hI.2.2.2 hd hlk
    · exact h.elim
  · obtain ⟨rfl, rfl, rfl, h⟩ := h
    intro H lo ls hI hv hn
    exact va_gets hx hb TB.2.2.2.2.1 hI.2 hown (hts _ (zall zuWc _ (List.mem_singleton.mpr rfl))) (fun _ h9 => h9) hd (hk _ _ _ _ _ _ _ _ _ h _ _ _ hI hv hn)
  · split at h
    · next r st =>
      obtain ⟨rfl, h⟩ := h
      split at h
      · next ci j rr he =>
        split at h
        · next fk hf =>
          intro H lo ls hI hv hn
          obtain ⟨nest, fin, ty⟩ := rr
          obtain ⟨C, T, N, hc, hj, hT, hfin, hty, hn1, hn2⟩ := zfl_ok he
          obtain ⟨hrn, ks, hs, hkj⟩ := zfk_some hf
          obtain ⟨hin, -⟩ := zcl_ok hc
          show W _ _ _ _ _ _ _ _ _ _ _ _ _ _ _ (F0 m pc ls (.ref (zad E r) :: st.map (zcv E)))
          rw [zad_lt (Nat.lt_of_lt_of_le hrn hI.1.2.2)]
          cases nest
          · exact va_get hx hb hts hin hown hK hI.1.1 r (zobj_at hrn hs) hc j hj (hts _ (hn2 rfl)) (fun x hx9 => by rw [hT] at hx9; exact hx9) (zmapIdx hkj) hd (hk _ _ _ _ _ _ _ _ _ h _ _ _ hI hv hn)
          · exact va_getN hx hb hts hin hown hK hI.1.1 r (zobj_at hrn hs) hc j hj (va_Nw.use rfl (TB.2.1 _ (hn1 rfl))) (fun x hx9 => by rw [hT] at hx9; exact hx9) (zmapIdx hkj) hd (hk _ _ _ _ _ _ _ _ _ h _ _ _ hI hv hn)
        · exact h.elim
      · exact h.elim
    · exact h.elim
  · split at h
    · next x r st =>
      obtain ⟨rfl, h⟩ := h
      split at h
      · next ci j nest fin ty he =>
        split at h
        · next hf =>
          obtain ⟨hfo, hv1, h⟩ := h
          intro H lo ls hI hv hn
          obtain ⟨C, T, N, hc, hj, hT, hfin, hty, hn1, hn2⟩ := zfl_ok he
          obtain ⟨hrn, ks, hs, hkj⟩ := zfk_some hf
          obtain ⟨hin, ⟨tys, htys⟩, hnm, -⟩ := zcl_ok hc
          obtain ⟨t, ht, hcase⟩ := zty_cases hc hj
          have hnf : narrow t (.int x) = .int x ∧ fits t (.int x) = true := by
            rcases hcase with ⟨rfl, q⟩ | ⟨rfl, q⟩ | ⟨_, _, _, q1, q2⟩
            · exact ⟨rfl, rfl⟩
            · rw [if_neg (by rw [q]; decide), if_pos q] at hty
              rcases hv1 with q3 | ⟨-, q3⟩
              · omega
              · exact ⟨znb q3, zfb q3⟩
            · rw [if_neg q1, if_neg q2] at hty
              rcases hv1 with q3 | ⟨q3, -⟩ <;> omega
          have hws : (zws E sh n I F).set r (zeB E + r, .inr (ci, (ks.mapIdx (fun i k => zcv E (zfa (F r i) k))).set j (.int x))) = zws E sh n I (zu2 F r j x) := zws_set hrn (fun q hq => ⟨rfl, rfl, zup_ne _ _ hq⟩) (by rw [hs]; show Sum.inr (ci, _) = _; rw [show zu2 F r j x r = upd (F r) j x from zup_eq _ _ _, zcellF (ci := ci) E hkj])
          have hlen : j < (ks.mapIdx (fun i k => zcv E (zfa (F r i) k))).length := by rw [List.length_mapIdx]; exact (List.getElem?_eq_some_iff.mp hkj).1
          show W _ _ _ _ _ _ _ _ _ _ _ _ _ _ _ (F0 m pc ls (.int x :: .ref (zad E r) :: st.map (zcv E)))
          rw [zad_lt (Nat.lt_of_lt_of_le hrn hI.1.2.2)]
          have kk : ∀ (H1 : Heap) (lo1 : List Loc), va_P (zeG E) zcl ((zws E sh n I F).set r (zeB E + r, .inr (ci, (ks.mapIdx (fun i k => zcv E (zfa (F r i) k))).set j (.int x)))) H1 → va_D (zA E) ((zws E sh n I F).set r (zeB E + r, .inr (ci, (ks.mapIdx (fun i k => zcv E (zfa (F r i) k))).set j (.int x)))) → va_S (zA E) s.heap H1 lo1 → W p (zel E) e R s m args below meth cd H1 lo1 cs zs (MQ below (zQ E Post) args s mc ms (zA E)) (F0 m (pc + 3) ls (st.map (zcv E))) := fun H1 lo1 hP1 _ hS1 => by
            rw [hws] at hP1
            exact zfix hP1 hS1 hn TB.2.2.2.2.2.2.2.2.2 (fun hz => hk _ _ _ _ _ _ _ _ _ h _ _ _ ⟨⟨hP1, hz, hI.1.2.2⟩, hS1⟩ hv hn)
          rcases hfo with hfo | ⟨hi1, hi2, hi3⟩
          · cases nest
            · exact va_put hx hb hts hin tys htys hnm hown hK hI.1.1 zD hI.2 r (zobj_at hrn hs) hc j hj (hts _ (hn2 rfl)) (fun x hx9 => by rw [hT] at hx9; exact hx9) (by rw [hfin]; exact hfo) ht hnf.1 hnf.2 hlen hd kk
            · exact va_putN hx hb hts hin tys htys hnm hown hK hI.1.1 zD hI.2 r (zobj_at hrn hs) hc j hj (va_Nw.use rfl (TB.2.1 _ (hn1 rfl))) (fun x hx9 => by rw [hT] at hx9; exact hx9) (by rw [hfin]; exact hfo) ht hnf.1 hnf.2 hlen hd kk
          · cases fin
            · cases nest
              · exact va_put hx hb hts hin tys htys hnm hown hK hI.1.1 zD hI.2 r (zobj_at hrn hs) hc j hj (hts _ (hn2 rfl)) (fun x hx9 => by rw [hT] at hx9; exact hx9) hfin ht hnf.1 hnf.2 hlen hd kk
              · cases hi2
            · subst hi2
              subst hi3
              exact va_putF hx hb hts hin tys htys hnm hown hK hI.1.1 zD hI.2 r (zobj_at hrn hs) hc j hj (hts _ (hn2 rfl)) (fun x hx9 => by rw [hT] at hx9; exact hx9) hfin (hini hi1) (by rw [hT]; exact (zcl_nm hc).symm) ht hnf.1 hnf.2 hlen hd kk
        · exact h.elim
      · exact h.elim
    · next q r st =>
      obtain ⟨rfl, h⟩ := h
      split at h
      · next ci j nest fin ty he =>
        split at h
        · next _z hf =>
          obtain ⟨hfo, hv1, h⟩ := h
          intro H lo ls hI hv hn
          obtain ⟨C, T, N, hc, hj, hT, hfin, hty, hn1, hn2⟩ := zfl_ok he
          obtain ⟨hrn, ks, hs, hkj⟩ := zfk_some hf
          obtain ⟨hin, ⟨tys, htys⟩, hnm, -⟩ := zcl_ok hc
          obtain ⟨t, ht, hcase⟩ := zty_cases hc hj
          have hnf : narrow t (.ref (zad E q)) = .ref (zad E q) ∧ fits t (.ref (zad E q)) = true := by
            rcases hcase with ⟨rfl, q⟩ | ⟨rfl, q⟩ | ⟨a1, a2, _, q1, q2⟩
            · rw [if_pos q] at hty
              omega
            · rw [if_neg (by rw [q]; decide), if_pos q] at hty
              omega
            · exact ⟨a1 _, a2 _⟩
          have hws : (zws E sh n I F).set r (zeB E + r, .inr (ci, (ks.mapIdx (fun i k => zcv E (zfa (F r i) k))).set j (.ref (zad E q)))) = zws E (zsr sh r j q) n I F := zws_set hrn (fun i hi => ⟨zup_ne _ _ hi, rfl, rfl⟩) (by unfold zsr; rw [zup_eq, hs]; show Sum.inr (ci, _) = _; rw [zcellR E hkj])
          have hlen : j < (ks.mapIdx (fun i k => zcv E (zfa (F r i) k))).length := by rw [List.length_mapIdx]; exact (List.getElem?_eq_some_iff.mp hkj).1
          show W _ _ _ _ _ _ _ _ _ _ _ _ _ _ _ (F0 m pc ls (.ref (zad E q) :: .ref (zad E r) :: st.map (zcv E)))
          rw [zad_lt (Nat.lt_of_lt_of_le hrn hI.1.2.2)]
          have kk : ∀ (H1 : Heap) (lo1 : List Loc), va_P (zeG E) zcl ((zws E sh n I F).set r (zeB E + r, .inr (ci, (ks.mapIdx (fun i k => zcv E (zfa (F r i) k))).set j (.ref (zad E q))))) H1 → va_D (zA E) ((zws E sh n I F).set r (zeB E + r, .inr (ci, (ks.mapIdx (fun i k => zcv E (zfa (F r i) k))).set j (.ref (zad E q))))) → va_S (zA E) s.heap H1 lo1 → W p (zel E) e R s m args below meth cd H1 lo1 cs zs (MQ below (zQ E Post) args s mc ms (zA E)) (F0 m (pc + 3) ls (st.map (zcv E))) := fun H1 lo1 hP1 _ hS1 => by
            rw [hws] at hP1
            exact zfix hP1 hS1 hn TB.2.2.2.2.2.2.2.2.2 (fun hz => hk _ _ _ _ _ _ _ _ _ h _ _ _ ⟨⟨hP1, hz, hI.1.2.2⟩, hS1⟩ hv hn)
          rcases hfo with hfo | ⟨hi1, hi2, hi3⟩
          · cases nest
            · exact va_put hx hb hts hin tys htys hnm hown hK hI.1.1 zD hI.2 r (zobj_at hrn hs) hc j hj (hts _ (hn2 rfl)) (fun x hx9 => by rw [hT] at hx9; exact hx9) (by rw [hfin]; exact hfo) ht hnf.1 hnf.2 hlen hd kk
            · exact va_putN hx hb hts hin tys htys hnm hown hK hI.1.1 zD hI.2 r (zobj_at hrn hs) hc j hj (va_Nw.use rfl (TB.2.1 _ (hn1 rfl))) (fun x hx9 => by rw [hT] at hx9; exact hx9) (by rw [hfin]; exact hfo) ht hnf.1 hnf.2 hlen hd kk
          · cases fin
            · cases nest
              · exact va_put hx hb hts hin tys htys hnm hown hK hI.1.1 zD hI.2 r (zobj_at hrn hs) hc j hj (hts _ (hn2 rfl)) (fun x hx9 => by rw [hT] at hx9; exact hx9) hfin ht hnf.1 hnf.2 hlen hd kk
              · cases hi2
            · subst hi2
              subst hi3
              exact va_putF hx hb hts hin tys htys hnm hown hK hI.1.1 zD hI.2 r (zobj_at hrn hs) hc j hj (hts _ (hn2 rfl)) (fun x hx9 => by rw [hT] at hx9; exact hx9) hfin (hini hi1) (by rw [hT]; exact (zcl_nm hc).symm) ht hnf.1 hnf.2 hlen hd kk
        · exact h.elim
      · exact h.elim
    · exact h.elim
  · split at h
    · next i r st =>
      obtain ⟨rfl, h⟩ := h
      split at h
      · next len f he =>
        obtain ⟨hi, h⟩ := h
        intro H lo ls hI hv hn
        exact zZ_at TB hI hx hb he hi hd (hk _ _ _ _ _ _ _ _ _ h _ _ _ hI hv hn)
      · exact h.elim
    · exact h.elim
  · split at h
    · next x i r st =>
      obtain ⟨rfl, h⟩ := h
      split at h
      · next len he =>
        obtain ⟨hi, h⟩ := h
        intro H lo ls hI hv hn
        obtain ⟨hrn, hs⟩ := zas_some he
        show W _ _ _ _ _ _ _ _ _ _ _ _ _ _ _ (F0 m pc ls (.int x :: .int i :: .ref (zad E r) :: st.map (zcv E)))
        rw [zad_lt (Nat.lt_of_lt_of_le hrn hI.1.2.2)]
        have hws : (zws E sh n I F).set r (zeB E + r, .inl (zeA E, len, .inl (upd (I r) i.toNatClampNeg x))) = zws E sh n (zu2 I r i.toNatClampNeg x) F := zws_set hrn (fun q hq => ⟨rfl, zup_ne _ _ hq, rfl⟩) (by rw [hs]; show Sum.inl _ = _; rw [show zu2 I r i.toNatClampNeg x r = upd (I r) i.toNatClampNeg x from zup_eq _ _ _])
        refine va_iast hx hb hK hI.1.1 zD hI.2 r 0 (zarr_at hrn hs) rfl hi hd (fun H1 lo1 hP1 _ hS1 => ?_)
        rw [hws] at hP1
        exact zfix hP1 hS1 hn TB.2.2.2.2.2.2.2.2.2 (fun hz => hk _ _ _ _ _ _ _ _ _ h _ _ _ ⟨⟨hP1, hz, hI.1.2.2⟩, hS1⟩ hv hn)
      · exact h.elim
    · exact h.elim
  · split at h
    · next i r st =>
      obtain ⟨rfl, h⟩ := h
      split at h
      · next t rs he =>
        obtain ⟨ht2, hi, h⟩ := h
        intro H lo ls hI hv hn
        obtain ⟨hrn, hs⟩ := zrs_some he
        show W _ _ _ _ _ _ _ _ _ _ _ _ _ _ _ (F0 m pc ls (.int i :: .ref (zad E r) :: st.map (zcv E)))
        rw [zad_lt (Nat.lt_of_lt_of_le hrn hI.1.2.2)]
        have e1 : va_rf ((rs.getD i.toNatClampNeg none).map (zad E)) = zcv E (zrv (rs.getD i.toNatClampNeg none)) := by cases rs.getD i.toNatClampNeg none <;> rfl
        have k9 := hk _ _ _ _ _ _ _ _ _ h _ _ _ hI hv hn
        match t, ht2, hs with
        | 0, _, hs => exact va_aldq hx hb hK hI.1.1 r 1 (zrow_at hrn hs) rfl hi hd (by rw [e1]; exact k9)
        | 1, _, hs => exact va_aldq hx hb hK hI.1.1 r 2 (zrow_at hrn hs) rfl hi hd (by rw [e1]; exact k9)
      · exact h.elim
    · exact h.elim
  · split at h
    · next v i r st =>
      obtain ⟨rfl, h⟩ := h
      split at h
      · next t rs he =>
        obtain ⟨hi, hvn, hvc, h⟩ := h
        intro H lo ls hI hv hn
        obtain ⟨hrn, hs⟩ := zrs_some he
        split at hvc
        · next ci ks hsv =>
          show W _ _ _ _ _ _ _ _ _ _ _ _ _ _ _ (F0 m pc ls (.ref (zad E v) :: .int i :: .ref (zad E r) :: st.map (zcv E)))
          rw [zad_lt (Nat.lt_of_lt_of_le hrn hI.1.2.2), zad_lt (Nat.lt_of_lt_of_le hvn hI.1.2.2)]
          have hws : (zws E sh n I F).set r (zeB E + r, .inl (zeR E t, rs.length, .inr (.inr (.inr (.inr (va_up (fun i => (rs.getD i none).map (zad E)) i.toNatClampNeg (some (zeB E + v)))))))) = zws E (va_up sh r (.inr (.inr (t, rs.set i.toNatClampNeg (some v))))) n I F := zws_set hrn (fun q hq => ⟨zup_ne _ _ hq, rfl, rfl⟩) (by
            rw [zup_eq]
            show Sum.inl _ = _
            rw [List.length_set]
            have hl : i.toNatClampNeg < rs.length := Nat.not_le.mp fun q => hi (Or.inr q)
            have : (fun j => ((rs.set i.toNatClampNeg (some v)).getD j none).map (zad E)) = va_up (fun i => (rs.getD i none).map (zad E)) i.toNatClampNeg (some (zeB E + v)) := by
              funext j
              by_cases hj : j = i.toNatClampNeg
              · subst hj
                rw [zup_eq, List.getD_eq_getElem?_getD, List.getElem?_set_self hl]
                show some (zad E v) = _
                rw [zad_lt (Nat.lt_of_lt_of_le hvn hI.1.2.2)]
              · rw [zup_ne _ _ hj, List.getD_eq_getElem?_getD, List.getElem?_set_ne (fun q => hj q.symm), List.getD_eq_getElem?_getD]
            rw [this])
          have kk : ∀ (H1 : Heap) (lo1 : List Loc), va_P (zeG E) zcl ((zws E sh n I F).set r (zeB E + r, .inl (zeR E t, rs.length, .inr (.inr (.inr (.inr (va_up (fun i => (rs.getD i none).map (zad E)) i.toNatClampNeg (some (zeB E + v))))))))) H1 → va_D (zA E) ((zws E sh n I F).set r (zeB E + r, .inl (zeR E t, rs.length, .inr (.inr (.inr (.inr (va_up (fun i => (rs.getD i none).map (zad E)) i.toNatClampNeg (some (zeB E + v))))))))) → va_S (zA E) s.heap H1 lo1 → W p (zel E) e R s m args below meth cd H1 lo1 cs zs (MQ below (zQ E Post) args s mc ms (zA E)) (F0 m (pc + 1) ls (st.map (zcv E))) := fun H1 lo1 hP1 _ hS1 => by
            rw [hws] at hP1
            exact zfix hP1 hS1 hn TB.2.2.2.2.2.2.2.2.2 (fun hz => hk _ _ _ _ _ _ _ _ _ h _ _ _ ⟨⟨hP1, hz, hI.1.2.2⟩, hS1⟩ hv hn)
          rcases hvc with ⟨rfl, rfl⟩ | ⟨rfl, rfl⟩
          · exact va_astq hx hb hK hI.1.1 zD hI.2 r 1 v 4 (r := (RX4, TX4, 5)) (zrow_at hrn hs) rfl (zobj_at hvn hsv) rfl hi hd kk
          · exact va_astq hx hb hK hI.1.1 zD hI.2 r 2 v 2 (r := (RX2, TX2, 3)) (zrow_at hrn hs) rfl (zobj_at hvn hsv) rfl hi hd kk
        · exact hvc.elim
      · exact h.elim
    · exact h.elim
  · split at h
    · next r st =>
      obtain ⟨rfl, h⟩ := h
      split at h
      · next len f he =>
        intro H lo ls hI hv hn
        exact zZ_len TB hI hx hb he hd (hk _ _ _ _ _ _ _ _ _ h _ _ _ hI hv hn)
      · exact h.elim
    · exact h.elim
  · split at h
    · next x st =>
      obtain ⟨rfl, hx0, hx1, h1, h2, h3, h⟩ := h
      intro H lo ls hI hv hn
      refine va_newaK (atype := .int) (N := x.toNatClampNeg) hx hb (hts _ (zW1 _ (by decide +kernel))) rfl hd rfl hx0 rfl (by show _ * 4 ≤ _; omega) (by rw [hRC]; exact h1) (by rw [hRS]; exact h2) hI.1.2.1 (fun H1 cA e1 z1 o1 hAr hNm => ?_)
      have hcA : cA = zeA E := Option.some.inj (hNm.symm.trans (hK.2 0 _ rfl).2)
      subst hcA
      have hP1 : va_P (zeG E) zcl (zws E (va_up sh n (.inr (.inl x.toNatClampNeg))) (n + 1) (va_up I n (fun _ => 0)) F) H1 := by
        rw [zws_push (sh := sh) (I := I) (F := F) (fun j hj => ⟨zup_ne _ _ (Nat.ne_of_lt hj), zup_ne _ _ (Nat.ne_of_lt hj), rfl⟩)]
        refine (hI.1.1.kept (fun k q hq => ?_)).app (fun k q hq => ?_)
        · obtain ⟨hkn, rfl⟩ := zws_some hq
          exact o1 _ (by show zeB E + k < _; omega)
        · have hz : k < 1 := (List.getElem?_eq_some_iff.mp hq).1
          rw [show k = 0 by omega] at hq
          cases hq
          rw [zup_eq, zup_eq]
          exact e1
      have hS1 : va_S (zA E) s.heap H1 lo := ⟨by rw [z1, ← hI.1.2.1]; exact Nat.le_succ_of_le hI.2.1, fun q a1 a2 => (o1 q (by rw [← hI.1.2.1]; exact Nat.lt_of_lt_of_le a1 hI.2.1)).trans (hI.2.2.1 q a1 a2), hI.2.2.2⟩
      have := hk _ _ _ _ _ _ _ _ _ h H1 lo ls ⟨⟨hP1, by rw [z1]; rfl, h3⟩, hS1⟩ hv (by omega)
      rw [← zad_lt (E := E) (k := n) (by omega)]
      exact this
    · exact h.elim
  · split at h
    · next x st =>
      obtain ⟨rfl, hx0, hx1, h1, h2, h3, h⟩ := h
      intro H lo ls hI hv hn
      split at h
      · next he =>
        refine W.anew (C := RX4) hx hb hown (hts _ (zkC_ok he)) (va_AO.use TB.2.2.1) rfl hd rfl hx0 (by omega) (by rw [hRC]; exact h1) (by rw [hRS]; exact h2) (fun cA kA comp f1 f2 f3 f4 => ?_)
        have hcA : cA = zeR E 0 := by
          obtain ⟨_, _, _, _, _, g4⟩ := (hK.2 1 _ rfl).2
          exact Option.some.inj (f1.symm.trans g4)
        subst hcA
        generalize hH1 : H.push ({ cls := zeR E 0, slots := Array.replicate x.toNatClampNeg .null, vm := .none } : Cell) = H1
        have z1 : H1.size = H.size + 1 := by rw [← hH1, Array.size_push]
        have e1 : H1[H.size]? = some (arrV (zeR E 0) x.toNatClampNeg (fun _ => .null)) := by rw [← hH1, Array.getElem?_push_size, ← arrV_new]
        have o1 : ∀ q : Nat, q < H.size → H1[q]? = H[q]? := fun q hq => by rw [← hH1, Array.getElem?_push, if_neg (Nat.ne_of_lt hq)]
        have hP1 : va_P (zeG E) zcl (zws E (va_up sh n (.inr (.inr (0, List.replicate x.toNatClampNeg none)))) (n + 1) I F) H1 := by
          rw [zws_push (sh := sh) (I := I) (F := F) (fun j hj => ⟨zup_ne _ _ (Nat.ne_of_lt hj), rfl, rfl⟩)]
          refine (hI.1.1.kept (fun k q hq => ?_)).app (fun k q hq => ?_)
          · obtain ⟨hkn, rfl⟩ := zws_some hq
            exact o1 _ (by rw [hI.1.2.1]; show zeB E + k < _; omega)
          · have hz : k < 1 := (List.getElem?_eq_some_iff.mp hq).1
            rw [show k = 0 by omega] at hq
            cases hq
            rw [zup_eq]
            show H1[zeB E + n]? = some (vp_cell _ _)
            rw [← hI.1.2.1, e1, vp_cell_q, List.length_replicate]
            congr 2
            funext i
            rw [List.getD_eq_getElem?_getD]
            by_cases hi : i < x.toNatClampNeg
            · rw [List.getElem?_replicate_of_lt hi]
              rfl
            · rw [List.getElem?_eq_none (by rw [List.length_replicate]; omega)]
              rfl
        have hS1 : va_S (zA E) s.heap H1 lo := ⟨by rw [z1]; exact Nat.le_succ_of_le hI.2.1, fun q a1 a2 => (o1 q (Nat.lt_of_lt_of_le a1 hI.2.1)).trans (hI.2.2.1 q a1 a2), hI.2.2.2⟩
        have := hk _ _ _ _ _ _ _ _ _ h H1 lo ls ⟨⟨hP1, by rw [z1, hI.1.2.1]; rfl, h3⟩, hS1⟩ hv (by omega)
        rw [hI.1.2.1, ← zad_lt (E := E) (k := n) (by omega)]
        exact this
      · next he =>
        refine W.anew (C := RX2) hx hb hown (hts _ (zkC_ok he)) (va_AO.use TB.2.2.2.1) rfl hd rfl hx0 (by omega) (by rw [hRC]; exact h1) (by rw [hRS]; exact h2) (fun cA kA comp f1 f2 f3 f4 => ?_)
        have hcA : cA = zeR E 1 := by
          obtain ⟨_, _, _, _, _, g4⟩ := (hK.2 2 _ rfl).2
          exact Option.some.inj (f1.symm.trans g4)
        subst hcA
        generalize hH1 : H.push ({ cls := zeR E 1, slots := Array.replicate x.toNatClampNeg .null, vm := .none } : Cell) = H1
        have z1 : H1.size = H.size + 1 := by rw [← hH1, Array.size_push]
        have e1 : H1[H.size]? = some (arrV (zeR E 1) x.toNatClampNeg (fun _ => .null)) := by rw [← hH1, Array.getElem?_push_size, ← arrV_new]
        have o1 : ∀ q : Nat, q < H.size → H1[q]? = H[q]? := fun q hq => by rw [← hH1, Array.getElem?_push, if_neg (Nat.ne_of_lt hq)]
        have hP1 : va_P (zeG E) zcl (zws E (va_up sh n (.inr (.inr (1, List.replicate x.toNatClampNeg none)))) (n + 1) I F) H1 := by
          rw [zws_push (sh := sh) (I := I) (F := F) (fun j hj => ⟨zup_ne _ _ (Nat.ne_of_lt hj), rfl, rfl⟩)]
          refine (hI.1.1.kept (fun k q hq => ?_)).app (fun k q hq => ?_)
          · obtain ⟨hkn, rfl⟩ := zws_some hq
            exact o1 _ (by rw [hI.1.2.1]; show zeB E + k < _; omega)
          · have hz : k < 1 := (List.getElem?_eq_some_iff.mp hq).1
            rw [show k = 0 by omega] at hq
            cases hq
            rw [zup_eq]
            show H1[zeB E + n]? = some (vp_cell _ _)
            rw [← hI.1.2.1, e1, vp_cell_q, List.length_replicate]
            congr 2
            funext i
            rw [List.getD_eq_getElem?_getD]
            by_cases hi : i < x.toNatClampNeg
            · rw [List.getElem?_replicate_of_lt hi]
              rfl
            · rw [List.getElem?_eq_none (by rw [List.length_replicate]; omega)]
              rfl
        have hS1 : va_S (zA E) s.heap H1 lo := ⟨by rw [z1]; exact Nat.le_succ_of_le hI.2.1, fun q a1 a2 => (o1 q (Nat.lt_of_lt_of_le a1 hI.2.1)).trans (hI.2.2.1 q a1 a2), hI.2.2.2⟩
        have := hk _ _ _ _ _ _ _ _ _ h H1 lo ls ⟨⟨hP1, by rw [z1, hI.1.2.1]; rfl, h3⟩, hS1⟩ hv (by omega)
        rw [hI.1.2.1, ← zad_lt (E := E) (k := n) (by omega)]
        exact this
      · exact h.elim
    · exact h.elim
  · obtain ⟨rfl, h⟩ := h
    split at h
    · next ci he =>
      obtain ⟨hci, h1, h2, h3, h⟩ := h
      intro H lo ls hI hv hn
      have hc := zcl7 hci
      generalize hg : zcl.getD ci (RX0, TX0, 14) = g at hc
      obtain ⟨C, T, N⟩ := g
      obtain ⟨hin, ⟨tys, htys⟩, hnm, hins, hinit⟩ := zcl_ok hc
      have hCn : znm ci = C := zcl_nm hc
      have hdl : (zdk ci).length = N := by unfold zdk; rw [List.length_map, List.length_range, hg]
      have hKn := hK.1 ci _ hc
      refine W.newcK (C := C) (n := N) hx hb hown (by have := hts _ (zkC_ok he); rw [hCn] at this; exact this) (hts _ hins) (hts _ hinit) rfl hd (by rw [hRC]; exact h1) (by rw [hRS, ← hdl]; exact h2) hKn.2.1 hI.1.2.1 (fun H1 kC hkC e1 z1 o1 => ?_)
      have hP1 : va_P (zeG E) zcl (zws E (va_up sh n (.inl (ci, zdk ci))) (n + 1) I (va_up F n (fun _ => 0))) H1 := by
        rw [zws_push (sh := sh) (I := I) (F := F) (fun j hj => ⟨zup_ne _ _ (Nat.ne_of_lt hj), rfl, zup_ne _ _ (Nat.ne_of_lt hj)⟩)]
        refine (hI.1.1.kept (fun k q hq => ?_)).app (fun k q hq => ?_)
        · obtain ⟨hkn, rfl⟩ := zws_some hq
          exact o1 _ (by show zeB E + k < _; omega)
        · have hz : k < 1 := (List.getElem?_eq_some_iff.mp hq).1
          rw [show k = 0 by omega] at hq
          cases hq
          rw [zup_eq, zup_eq]
          refine ⟨_, hc, (u_born tys hts hin hKn hkC e1 htys).to (fun j hj => ?_)⟩
          obtain ⟨t, ht, hcase⟩ := zty_cases hc hj
          have htt : tys j = t := Option.some.inj ((htys j hj).symm.trans ht)
          have hks : (zdk ci)[j]? = some (if (T j).2.2.1 = "I" ∨ (T j).2.2.1 = "Z" then none else some none) := by
            unfold zdk
            rw [hg, List.getElem?_map, List.getElem?_range hj]
            rfl
          unfold vp_V
          rw [List.getD_eq_getElem?_getD, zmapIdx hks, htt]
          rcases hcase with ⟨rfl, q⟩ | ⟨rfl, q⟩ | ⟨_, _, a3, q1, q2⟩
          · rw [if_pos (Or.inl q)]
            rfl
          · rw [if_pos (Or.inr q)]
            rfl
          · rw [if_neg (fun z => z.elim q1 q2), a3]
            rfl
      have hS1 : va_S (zA E) s.heap H1 lo := ⟨by rw [z1, ← hI.1.2.1]; exact Nat.le_succ_of_le hI.2.1, fun q a1 a2 => (o1 q (by rw [← hI.1.2.1]; exact Nat.lt_of_lt_of_le a1 hI.2.1)).trans (hI.2.2.1 q a1 a2), hI.2.2.2⟩
      have := hk _ _ _ _ _ _ _ _ _ h H1 lo ls ⟨⟨hP1, by rw [z1]; rfl, h3⟩, hS1⟩ hv (by omega)
      rw [hdl] at this
      rw [← zad_lt (E := E) (k := n) (by omega)]
      exact this
    · exact h.elim
  · obtain ⟨rfl, h⟩ := h
    split at h
    · next id na he =>
      obtain ⟨hrc, h⟩ := h
      obtain ⟨np, rfl, hF, hl, hnm, hcls, hid⟩ := zml1 he
      refine zcal_ok hSo h hk (fun mc2 ms2 as rest P H lo ls hI hv hst hlen htk hct hc1 hs1 hM => ?_)
      unfold zrc at hrc
      rw [htk] at hrc
      match as, hrc, hst, hlen, hM with
      | .ref r :: as, hrc, hst, hlen, hM =>
        obtain ⟨hrn, ks, hs⟩ := zcn_some hrc
        have hct2 := hct
        rw [← zct_map E] at hct2
        refine va_runV (C := (zmi id).1.cls) (b := zad E r) (As := as.map (zcv E)) (n := np) (nL := nL) (bytes := (zmi id).2.1) (maxL := (zmi id).2.2.1) (ret := (zmi id).2.2.2) ⟨hx, hb, hml, hown, hts⟩ hM (cwV np hts (fun w hw => ?_) rfl rfl rfl ⟨rfl, hF.2.2.2.2.1.1, hF.2.2.2.2.1.2, hF.2.2.2.2.2.1⟩ ⟨hRf, by have := hF.2.2.2.2.2.2.1; show 8 + (_ + 11) + 38 * k0 ≤ R.locals; omega⟩) ⟨zblind, ?_, zprw TB hI (.ref r :: as)⟩ rfl (by rw [List.length_map]; simpa using hlen) hv.1 (by rw [hst]; simp [zcv]) (lv_room hct2) hd ⟨by rw [hRC]; exact hc1, by rw [hRS]; exact hs1⟩
        · rcases List.mem_append.mp hw with hw | hw
          · simp only [List.mem_cons, List.not_mem_nil, or_false] at hw
            rcases hw with rfl | rfl | rfl | rfl
            · exact zGood _ hl
            · exact zGood _ hF.2.1
            · exact zGood _ (hF.2.2.1 rfl hnm)
            · exact zGood _ hF.2.2.2.1
          · exact zgood_w hF w hw
        · have := va_recv (ci := id / 100) hK hI.1.1 (zcl7 hid) (zobj_at hrn hs)
          rw [hcls] at this
          rw [zad_lt (Nat.lt_of_lt_of_le hrn hI.1.2.2)]
          exact this
    · exact h.elim
  · obtain ⟨rfl, h⟩ := h
    split at h
    · next id na he =>
      obtain ⟨hF, hl⟩ := zml0 he
      refine zcal_ok hSo h hk (fun mc2 ms2 as rest P H lo ls hI hv hst hlen htk hct hc1 hs1 hM => ?_)
      have hct2 := hct
      rw [← zct_map E] at hct2
      exact va_runS (As := as.map (zcv E)) (n := na) (nL := nL) (bytes := (zmi id).2.1) (maxL := (zmi id).2.2.1) (ret := (zmi id).2.2.2) ⟨hx, hb, hml, hown, hts⟩ hM ⟨callB_of na hts (zgood_w hF) rfl rfl rfl (hts _ hF.2.2.2.1) (hts _ hl) ⟨hF.2.2.2.2.1.1, hF.2.2.2.2.1.2, hF.2.2.2.2.2.1⟩ ⟨hRf, by have := hF.2.2.2.2.2.2.1; show 8 + (_ + 11) + 38 * k0 ≤ R.locals; omega⟩, hts _ hF.2.1⟩ ⟨zblind, zprw TB hI as⟩ rfl (by rw [List.length_map]; exact hlen) hv.1 (by rw [hst]; simp) (lv_room hct2) hd ⟨by rw [hRC]; exact hc1, by rw [hRS]; exact hs1⟩
    · next id na he =>
      obtain ⟨hF, hl⟩ := zml5 he
      refine zcal_ok hSo h hk (fun mc2 ms2 as rest P H lo ls hI hv hst hlen htk hct hc1 hs1 hM => ?_)
      have hct2 := hct
      rw [← zct_map E] at hct2
      exact va_runSN (host := RX5) (As := as.map (zcv E)) (n := na) (nL := nL) (bytes := (zmi id).2.1) (maxL := (zmi id).2.2.1) (ret := (zmi id).2.2.2) ⟨hx, hb, hml, hown, hts⟩ hM ⟨va_cnB na hts (zgood_w hF) rfl rfl rfl (TB.2.1 _ hl) (hts _ hF.2.2.2.1) ⟨hF.2.2.2.2.1.1, hF.2.2.2.2.1.2, hF.2.2.2.2.2.1⟩ ⟨hRf, by have := hF.2.2.2.2.2.2.1; show 8 + (_ + 11) + 38 * k0 ≤ R.locals; omega⟩, hts _ hF.2.1, trivial⟩ ⟨zblind, zprw TB hI as⟩ rfl (by rw [List.length_map]; exact hlen) hv.1 (by rw [hst]; simp) (lv_room hct2) hd ⟨by rw [hRC]; exact hc1, by rw [hRS]; exact hs1⟩
    · next id na he =>
      split at h
      · obtain ⟨hct, h1, h2, h⟩ := h
        intro H lo ls hI hv hn
        rw [← zct_map E] at hct
        exact va_mmax hx hb (by rw [hml]; exact hv.1.symm) hown (hts _ (zml6 he)) (hts _ (zW1 _ (by decide +kernel))) (hts _ (zW1 _ (by decide +kernel))) (hts _ (zW1 _ (by decide +kernel))) (by omega) (by omega) (by rw [hRC]; exact h1) (by rw [hRS]; exact h2) hd (hk _ _ _ _ _ _ _ _ _ h _ _ _ hI hv hn)
      · exact h.elim
    · next id na he =>
      split at h
      · obtain ⟨hct, h1, h2, h⟩ := h
        intro H lo ls hI hv hn
        rw [← zct_map E] at hct
        exact va_mmin hx hb (by rw [hml]; exact hv.1.symm) hown (hts _ (zml7 he)) (hts _ (zW1 _ (by decide +kernel))) (hts _ (zW1 _ (by decide +kernel))) (hts _ (zW1 _ (by decide +kernel))) (by omega) (by omega) (by rw [hRC]; exact h1) (by rw [hRS]; exact h2) hd (hk _ _ _ _ _ _ _ _ _ h _ _ _ hI hv hn)
      · exact h.elim
    · next id na he =>
      split at h
      · next len dp b sp a st =>
        obtain ⟨hct, h⟩ := h
        split at h
        · next na nb ha hb2 =>
          obtain ⟨q1, q2, q3, q4, q5, h⟩ := h
          intro H lo ls hI hv hn
          obtain ⟨han, has⟩ := zas_some ha
          obtain ⟨hbn, hbs⟩ := zas_some hb2
          rw [← zct_map E] at hct
          show W _ _ _ _ _ _ _ _ _ _ _ _ _ _ _ (F0 m pc ls (.int len :: .int dp :: .ref (zad E b) :: .int sp :: .ref (zad E a) :: st.map (zcv E)))
          rw [zad_lt (Nat.lt_of_lt_of_le han hI.1.2.2), zad_lt (Nat.lt_of_lt_of_le hbn hI.1.2.2)]
          have hws : (zws E sh n I F).set b (zeB E + b, .inl (zeA E, nb, .inl (va_cpy (I a) (I b) sp.toNatClampNeg dp.toNatClampNeg len.toNatClampNeg))) = zws E sh n (va_up I b (va_cpy (I a) (I b) sp.toNatClampNeg dp.toNatClampNeg len.toNatClampNeg)) F := zws_set hbn (fun q hq => ⟨rfl, zup_ne _ _ hq, rfl⟩) (by rw [hbs]; show Sum.inl _ = _; rw [zup_eq])
          have h5 : nativeFrameWords "java/lang/System" "arraycopy" 5 ≤ 19 := by decide +kernel
          refine va_copyi (ty := .int) hx hb (by rw [hml]; exact hv.1.symm) hown (hts _ (zml4 he)) (hts _ (zall zuWa _ (List.mem_singleton.mpr rfl))) (hts _ (zall zuWb _ (List.mem_singleton.mpr rfl))) (hts _ (zW1 _ (by decide +kernel))) hK hI.1.1 zD hI.2 a b 0 0 (zarr_at han has) (zarr_at hbn hbs) rfl rfl rfl q1 q2 q3 q4 q5 (fun _ _ => rfl) (by omega) (by omega) hd (fun H1 lo1 hP1 _ hS1 => ?_)
          rw [hws] at hP1
          exact zfix hP1 hS1 hn TB.2.2.2.2.2.2.2.2.2 (fun hz => hk _ _ _ _ _ _ _ _ _ h _ _ _ ⟨⟨hP1, hz, hI.1.2.2⟩, hS1⟩ hv hn)
        · exact h.elim
      · exact h.elim
    · exact h.elim
  · obtain ⟨rfl, h⟩ := h
    split at h
    · next id na he =>
      split at h
      · obtain ⟨hct, h⟩ := h
        intro H lo ls hI hv hn
        rw [← zct_map E] at hct
        exact W.objInit hx hb hown (hts _ (zml3 he)) (hts _ (zW1 _ (by decide +kernel))) (hts _ (zW1 _ (by decide +kernel))) rfl (by rw [hml]; exact hv.1) rfl hd (by omega) (by show 2 * 0 + _ + 12 ≤ _; omega) (hk _ _ _ _ _ _ _ _ _ h _ _ _ hI hv hn)
      · exact h.elim
    · next id na he =>
      obtain ⟨hrc, h⟩ := h
      obtain ⟨np, rfl, hF, hl, hnm, hrt⟩ := zml2 he
      refine zcal_ok hSo h hk (fun mc2 ms2 as rest P H lo ls hI hv hst hlen htk hct hc1 hs1 hM => ?_)
      unfold zrc at hrc
      rw [htk] at hrc
      match as, hrc, hst, hlen, hM with
      | .ref r :: as, hrc, hst, hlen, hM =>
        have hct2 := hct
        rw [← zct_map E] at hct2
        have hG := zgood_w hF
        have hwe : zw id = .code (zmi id).1 (zmi id).2.1 (zmi id).2.2.1 none :: ztbG := by unfold zw; rw [hrt]
        exact va_runI (b := zad E r) (As := as.map (zcv E)) (n := np) (nL := nL) (bytes := (zmi id).2.1) (maxL := (zmi id).2.2.1) ⟨hx, hb, hml, hown, hts⟩ hM (cwI np hts hG hwe rfl rfl (hts _ hF.2.2.2.1) (hts _ hl) (hts _ hF.2.1) hnm ⟨hF.2.2.2.2.1.1, hF.2.2.2.2.1.2, hF.2.2.2.2.2.1⟩ ⟨hRf, by have := hF.2.2.2.2.2.2.1; show 8 + (_ + 11) + 38 * k0 ≤ R.locals; omega⟩) ⟨zblind, zprw TB hI (.ref r :: as)⟩ rfl (by rw [List.length_map]; simpa using hlen) hv.1 (by rw [hst]; simp [zcv]) (lv_room hct2) hd ⟨by rw [hRC]; exact hc1, by rw [hRS]; exact hs1⟩
    · exact h.elim
  · exact h.elim
end ZT
