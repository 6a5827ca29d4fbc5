/-! ===== relational contracts: a call whose outcome is told by a relation ===== -/
section ZCR
variable {E : zE} {c : Nat} {cc : ByteArray} {nL : Nat} {rt : Option FieldType} {ini : Bool} {RC RS k mc ms : Nat} {Post : zPo}
set_option maxHeartbeats 4000000 in
theorem zcallP {pc : Nat} {L : List (Option Value)} {st : List Value} {sh : Nat → zShp} {n : Nat} {I F : zI} {cs zs : Nat} {ix id na : Nat} {as rest : List Value} {P : zPo}
    (hd : decode cc pc = .ok (.invokevirtual ix, 3)) (he : zml c ix = some (id, na, 1)) (htk : ztk na [] st = some (as, rest)) (hrc : zrc id na st sh n) (hct : zct rest ≤ 8) (hc1 : cs ≤ RC) (hs1 : zs ≤ RS)
    (hM : zOk E k id 0 0 as sh n I F P)
    (hk : ∀ v sh' n' I' F', P v sh' n' I' F' → n' = n ∧ zG E c cc nL rt ini RC RS k mc ms Post (pc + 3) L (v.toList ++ rest) sh' n' I' F' cs zs) :
    zG E c cc nL rt ini RC RS k mc ms Post pc L st sh n I F cs zs := by
  intro p e s m args below meth cd R hRm X TB H lo ls hI hv hn
  have X' := X
  obtain ⟨hx, hb, hml, hown, hts, hr, hlk, hini⟩ := X'
  have hRm' := hRm
  obtain ⟨hRC, hRS, hRf, hRl⟩ := hRm'
  have hK := TB.1
  obtain ⟨a1, a2⟩ := ztk_spec htk
  have hst : st = as.reverse ++ rest := by simpa using a1.symm
  have hlen : as.length = na := by simpa using a2
  obtain ⟨np, rfl, hF, hl, hnm, hcls, hid⟩ := zml1 he
  refine zgo (mc := 0) (ms := 0) (P := P) (a := (as.map (zcv E)).toArray) (rest := rest.map (zcv E)) ?_ hI.2 (fun v sh' n' I' F' H1 lo1 hp hI1 => ?_)
  · unfold zrc at hrc
    rw [htk] at hrc
    match as, hrc, hst, hlen, hM with
    | .ref r :: as, hrc, hst, hlen, hM =>
      obtain ⟨hrn, ks, hs⟩ := zcn_some hrc
      have hct2 := hct
      rw [← zct_map E] at hct2
      refine va_runV (C := (zmi id).1.cls) (b := zad E r) (As := as.map (zcv E)) (n := np) (nL := nL) (bytes := (zmi id).2.1) (maxL := (zmi id).2.2.1) (ret := (zmi id).2.2.2) ⟨hx, hb, hml, hown, hts⟩ hM (cwV np hts (fun w hw => ?_) rfl rfl rfl ⟨rfl, hF.2.2.2.2.1.1, hF.2.2.2.2.1.2, hF.2.2.2.2.2.1⟩ ⟨hRf, by have := hF.2.2.2.2.2.2.1; show 8 + (_ + 11) + 38 * k ≤ R.locals; omega⟩) ⟨zblind, ?_, zprw TB hI (.ref r :: as)⟩ rfl (by rw [List.length_map]; simpa using hlen) hv.1 (by rw [hst]; simp [zcv]) (lv_room hct2) hd ⟨by rw [hRC]; exact hc1, by rw [hRS]; exact hs1⟩
      · rcases List.mem_append.mp hw with hw | hw
        · simp only [List.mem_cons, List.not_mem_nil, or_false] at hw
          rcases hw with rfl | rfl | rfl | rfl
          · exact zGood _ hl
          · exact zGood _ hF.2.1
          · exact zGood _ (hF.2.2.1 rfl hnm)
          · exact zGood _ hF.2.2.2.1
        · exact zgood_w hF w hw
      · have := va_recv (ci := id / 100) hK hI.1.1 (zcl7 hid) (zobj_at hrn hs)
        rw [hcls] at this
        rw [zad_lt (Nat.lt_of_lt_of_le hrn hI.1.2.2)]
        exact this
  · obtain ⟨e0, hk⟩ := hk v sh' n' I' F' hp
    have := hk p e s m args below meth cd R hRm X TB H1 lo1 ls hI1 hv (by rw [e0]; omega)
    rw [List.map_append] at this
    have e1 : (v.map (zcv E)).toList = v.toList.map (zcv E) := by cases v <;> rfl
    rw [e1]
    exact this
end ZCR
/-- a contract over the full heap, its outcome a relation -/
def zVR (E : zE) (k id : Nat) (as : List Value) (I F : zI) (P : Option Value → zI → zI → Prop) : Prop := zOk E k id 0 0 as zSH 77 I F (fun v sh n I' F' => sh = zSH ∧ n = 77 ∧ P v I' F')
theorem zVR_of {E : zE} {k id : Nat} {sp : zSp} {as : List Value} {I F I2 F2 : zI} {P : Prop} {ret : Option Value} (hv : zV E k id 0 0 sp) (hs : sp as zSH 77 I F = (P, ret, zSH, 77, I2, F2)) (hp : P) : zVR E k id as I F (fun v I' F' => v = ret ∧ I' = I2 ∧ F' = F2) := by
  have := hv as zSH 77 I F (by rw [hs]; exact hp)
  rw [hs] at this
  unfold zVR
  have e : (fun (v : Option Value) (sh : Nat → zShp) (n : Nat) (I' F' : zI) => sh = zSH ∧ n = 77 ∧ v = ret ∧ I' = I2 ∧ F' = F2) = (fun (v : Option Value) (sh' : Nat → zShp) (n' : Nat) (I' F' : zI) => v = (P, ret, zSH, 77, I2, F2).2.1 ∧ sh' = (P, ret, zSH, 77, I2, F2).2.2.1 ∧ n' = (P, ret, zSH, 77, I2, F2).2.2.2.1 ∧ I' = (P, ret, zSH, 77, I2, F2).2.2.2.2.1 ∧ F' = (P, ret, zSH, 77, I2, F2).2.2.2.2.2) := by
    funext v sh n I' F'
    exact propext ⟨fun ⟨a, b, c, d, e⟩ => ⟨c, a, b, d, e⟩, fun ⟨c, a, b, d, e⟩ => ⟨a, b, c, d, e⟩⟩
  rw [e]
  exact this
theorem zcallR {E : zE} {c : Nat} {cc : ByteArray} {nL : Nat} {rt : Option FieldType} {ini : Bool} {k : Nat} {Post : zPo} {pc : Nat} {L : List (Option Value)} {st : List Value} {I F : zI} {ix id na : Nat} {as rest : List Value} {P : Option Value → zI → zI → Prop}
    (hM : zVR E k id as I F P) (hd : decode cc pc = .ok (.invokevirtual ix, 3)) (he : zml c ix = some (id, na, 1)) (htk : ztk na [] st = some (as, rest)) (hrc : zrc id na st zSH 77) (hct : zct rest ≤ 8)
    (hk : ∀ v I' F', P v I' F' → zG E c cc nL rt ini 0 0 k 0 0 Post (pc + 3) L (v.toList ++ rest) zSH 77 I' F' 0 0) :
    zG E c cc nL rt ini 0 0 k 0 0 Post pc L st zSH 77 I F 0 0 := by
  refine zcallP hd he htk hrc hct (Nat.le_refl _) (Nat.le_refl _) hM (fun v sh' n' I' F' hp => ?_)
  obtain ⟨rfl, rfl, hp⟩ := hp
  exact ⟨rfl, hk v I' F' hp⟩
