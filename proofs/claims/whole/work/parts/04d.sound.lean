/-! ===== soundness: heap, calls ===== -/
theorem zTb_to {E : zE} {s t : State} {H : Heap} {lo : List Loc} (TB : zTb E s) (hS : va_S (zA E) s.heap H lo) (ht : t.heap = H) (hW : s.WarmedH t.vm) : zTb E t := by
  obtain ⟨hK, hN, h4, h2, hZ, hX, hXl, hY, hYl, hB⟩ := TB
  have hkeep : ∀ q : Nat, q < zeB E → t.heap[q]? = s.heap[q]? := fun q hq => by rw [ht]; exact hS.2.1 q (Nat.lt_of_lt_of_le hq hB) (Nat.not_le.mpr hq)
  refine ⟨va_K.moved hW.alike hK, fun w hw => ?_, va_AO.moved hW.alike h4, va_AO.moved hW.alike h2, ?_, (hX.kept (hkeep _ hXl)).moved hW.alike, hXl, (hY.kept (hkeep _ hYl)).moved hW.alike, hYl, ?_⟩
  · have h := hN w hw
    have hz := (List.mem_filter.mp hw).2
    cases w <;> first | exact va_Nw.warmF hW h | exact va_Nw.warmM hW h | (exact absurd hz (by simp [zisN]))
  · refine (va_Z.kept hZ (fun a h1 h2 => ?_)).moved hW.alike
    rw [ht]
    exact hS.2.1 a h1 h2
  · rw [ht]
    exact Nat.le_trans hB hS.1
theorem zTb_call {E : zE} {U : State} {g : JFrame} {mk : MethodId} {a : Array Value} (h : zTb E U) : zTb E (U.calling g mk a) := by
  obtain ⟨hK, hN, h4, h2, hZ, hX, hXl, hY, hYl, hB⟩ := h
  have al : U.vm.Alike (U.calling g mk a).vm := Vm.Alike.refl U.vm
  exact ⟨va_K.moved al hK, fun w hw => va_Nw.same (by
    have hz := (List.mem_filter.mp hw).2
    cases w <;> first | rfl | (exact absurd hz (by simp [zisN]))) (rfl : U.vm = (U.calling g mk a).vm) (hN w hw), va_AO.moved al h4, va_AO.moved al h2, va_Z.moved al hZ, va_X.moved al hX, hXl, va_X.moved al hY, hYl, hB⟩
theorem zblind {E : zE} {as : List Value} {sh : Nat → zShp} {n : Nat} {I F : zI} : FrameBlind (va_Pc (as.map (zcv E)) (zWd E sh n I F)) := fun _ _ _ _ q => ⟨q.1, zTb_call q.2.1, q.2.2⟩
section ZC
variable {E : zE} {p : Program} {e : Env} {R : Room} {s : State} {m : MethodId} {args : Array Value} {below : List Frame} {meth : Method} {cd : Code} {Q : State → Prop} {c nL : Nat} {cc : ByteArray}
theorem zgo {H : Heap} {lo : List Loc} {cs zs mc ms pc : Nat} {ls : Array Slot} {st0 rest : List Value} {a : Array Value} {P : zPo} (hr : va_Run p (zel E) e R s m args below meth cd H lo cs zs mc ms (F0 m pc ls st0) rest (zQ E P a) (zA E)) (hS : va_S (zA E) s.heap H lo)
    (kk : ∀ v sh n I F H1 lo1, P v sh n I F → zIn E s sh n I F H1 lo1 → W p (zel E) e R s m args below meth cd H1 lo1 (cs + mc) (zs + ms) Q (F0 m (pc + 3) ls ((v.map (zcv E)).toList ++ rest))) : W p (zel E) e R s m args below meth cd H lo cs zs Q (F0 m pc ls st0) := by
  intro T hT X
  obtain ⟨v, st₀, t, T', L, h0, X', hL, e1, e2, ⟨⟨u, sh, n, I, F, hv, hp, hb⟩, hz, hk⟩, st⟩ := hr T hT X
  cases hv
  rw [h0] at hz hk
  obtain ⟨t2, a1, b1⟩ := kk u sh n I F T'.heap (lo ++ L) hp ⟨by rw [e1]; exact hb.2, Nat.le_trans hS.1 (by rw [e1]; exact hz), fun q h1 h2 => by rw [e1, hk q (Nat.lt_of_lt_of_le h1 hS.1) h2]; exact hS.2.1 q h1 h2, fun q hq => by
    rcases List.mem_append.mp hq with h | h
    · exact hS.2.2 q h
    · exact hL q h⟩ T' rfl X'
  exact ⟨t2, st t2 a1, b1⟩
/-- what the tables say of a method -/
def zmF (id np : Nat) (stat : Bool) : Prop := Cond.code (zmi id).1 (zmi id).2.1 (zmi id).2.2.1 (zmi id).2.2.2 ∈ ztbG ∧ (if stat = true then Cond.static (zmi id).1 else Cond.instanceMethod (zmi id).1) ∈ ztbG ∧ (stat = false → (zmi id).1.name ≠ "<init>" → Cond.selects (zmi id).1.cls (zmi id).1 (zmi id).1 ∈ ztbG) ∧ Cond.initialized (zmi id).1.cls ∈ ztbG
  ∧ ((zmi id).1.cls ≠ "java/lang/invoke/MethodHandle" ∧ (zmi id).1.cls ≠ "java/lang/invoke/VarHandle") ∧ (parseMethodDescriptor (zmi id).1.desc).map (fun d => d.parameters.length) = some np ∧ (zmi id).2.2.1 ≤ 19 ∧ plainName (zmi id).1.cls = true
theorem zm_ok {id : Nat} {r : zMq} (h : zmT.find? (fun r => r.1 == id) = some r) : zmi id = r.2.1 ∧ zmF id r.2.2.2.2.2.2.1 r.2.2.2.2.2.2.2 := by
  have hi : zmi id = r.2.1 := by unfold zmi; rw [h]; rfl
  obtain ⟨hm, -⟩ := zfind h
  refine ⟨hi, ?_⟩
  unfold zmF
  rw [hi]
  have c0 := zmT_code r hm
  have c1 := List.all_eq_true.mp zmT_1 r hm
  have c2 := List.all_eq_true.mp zmT_2 r hm
  have c3 := List.all_eq_true.mp zmT_3 r hm
  have c4 := List.all_eq_true.mp zmT_4 r hm
  have c5 := List.all_eq_true.mp zmT_5 r hm
  have c6 := List.all_eq_true.mp zmT_6 r hm
  simp only [Bool.and_eq_true, decide_eq_true_eq, Bool.or_eq_true, beq_iff_eq] at c1 c2 c3 c4
  refine ⟨zG_of c0 c6, zG_of c1 (by split <;> rfl), fun hs hn => ?_, zG_of c3 rfl, ⟨c4.1.1.1, c4.1.1.2⟩, c4.1.2, c4.2, c5⟩
  rcases c2 with (q | q) | q
  · rw [hs] at q; cases q
  · exact absurd q hn
  · exact zG_of q rfl
theorem zgood_w {id np : Nat} {stat : Bool} (h : zmF id np stat) : GoodIn ztbG (zw id) := fun w hw => by
  rcases List.mem_cons.mp hw with rfl | hw
  · exact zGood _ h.1
  · exact zGood _ hw
theorem zprw (TB : zTb E s) {sh : Nat → zShp} {n : Nat} {I F : zI} {H : Heap} {lo : List Loc} (hI : zIn E s sh n I F H lo) (as : List Value) : ∀ U : State, U.heap = H → s.WarmedH U.vm → va_Pc (as.map (zcv E)) (zWd E sh n I F) (as.map (zcv E)).toArray U := fun U hU hW => ⟨rfl, zTb_to TB hI.2 hU hW, by rw [hU]; exact hI.1⟩
/-- a call of any kind: once its run stands, the abstract machine goes on -/
theorem zcal_ok {S : zSs} {k0 RC RS : Nat} (hS : zSok E k0 S) {k : zK} {pc : Nat} {L : List (Option Value)} {st : List Value} {sh : Nat → zShp} {n : Nat} {I F : zI} {cs zs id na : Nat} (h : zcal S RC RS k pc L st sh n I F cs zs id na)
    (hk : ∀ pc L st sh n I F cs zs, k pc L st sh n I F cs zs → zWv E p e R s m args below meth cd nL Q pc L st sh n I F cs zs)
    (hrun : ∀ (mc ms : Nat) (as rest : List Value) (P : zPo) (H : Heap) (lo : List Loc) (ls : Array Slot), zIn E s sh n I F H lo → zlv E ls nL L → st = as.reverse ++ rest → as.length = na → ztk na [] st = some (as, rest) → zct rest ≤ 8 → cs + mc ≤ RC → zs + ms ≤ RS → zOk E k0 id mc ms as sh n I F P →
      va_Run p (zel E) e R s m args below meth cd H lo cs zs mc ms (F0 m pc ls (st.map (zcv E))) (rest.map (zcv E)) (zQ E P (as.map (zcv E)).toArray) (zA E)) : zWv E p e R s m args below meth cd nL Q pc L st sh n I F cs zs := by
  unfold zcal at h
  split at h
  · exact h.elim
  · next mc ms sp hl =>
    split at h
    · exact h.elim
    · next as rest ht =>
      obtain ⟨h1, h0, h2, h3, h4, h5⟩ := h
      have hv : zV E k0 id mc ms sp := by
        have : ∀ S : zSs, zSok E k0 S → zlk S id = some (mc, ms, sp) → zV E k0 id mc ms sp := by
          intro S
          induction S with
          | nil => intro _ h; cases h
          | cons q S ih =>
            intro hS h
            unfold zlk at h
            split at h
            · next e =>
              obtain ⟨q1, q2⟩ := q
              cases h
              subst e
              exact hS _ List.mem_cons_self
            · exact ih (fun q hq => hS q (List.mem_cons_of_mem _ hq)) h
        exact this S hS hl
      obtain ⟨a1, a2⟩ := ztk_spec ht
      intro H lo ls hI hlv hn
      refine zgo (hrun mc ms as rest _ H lo ls hI hlv (by simpa using a1.symm) (by simpa using a2) ht h4 h2 h3 (hv as sh n I F h1)) hI.2 (fun v sh' n' I' F' H1 lo1 hp hI1 => ?_)
      obtain ⟨rfl, rfl, rfl, rfl, rfl⟩ := hp
      have := hk _ _ _ _ _ _ _ _ _ h5 H1 lo1 ls hI1 hlv (by rw [h0]; omega)
      rw [List.map_append] at this
      have e1 : ((sp as sh n I F).2.1.map (zcv E)).toList = (sp as sh n I F).2.1.toList.map (zcv E) := by cases (sp as sh n I F).2.1 <;> rfl
      rw [e1]
      exact this
theorem zmlF {c ix id na kd : Nat} (h : zml c ix = some (id, na, kd)) : ∃ q ∈ zmlT, q.1 = c ∧ q.2.1 = ix ∧ q.2.2.1 = id ∧ q.2.2.2.1 = na ∧ q.2.2.2.2.1 = kd ∧ zlchk q = true := by
  obtain ⟨q, hq, he⟩ := Option.map_eq_some_iff.mp h
  obtain ⟨hm, hp⟩ := zfind hq
  have hc := List.all_eq_true.mp zmlT_ok q hm
  simp only [Bool.and_eq_true, beq_iff_eq] at hp
  simp only [Prod.mk.injEq] at he
  exact ⟨q, hm, hp.1, hp.2, he.1, he.2.1, he.2.2, hc⟩
theorem zml0 {c ix id na : Nat} (h : zml c ix = some (id, na, 0)) : zmF id na true ∧ Cond.methodLink (znm c) ix (zmi id).1 ∈ ztbG := by
  obtain ⟨⟨qc, qi, qd, qa, qk, qp⟩, -, rfl, rfl, rfl, rfl, hk, hc⟩ := zmlF h
  dsimp only at hk
  subst hk
  simp only [zlchk] at hc
  split at hc
  · cases hc
  · next r hr =>
    simp only [Bool.and_eq_true, decide_eq_true_eq, beq_iff_eq] at hc
    obtain ⟨hi, hF⟩ := zm_ok hr
    rw [hc.1.2, hc.2] at hF
    exact ⟨hF, by rw [hi]; exact zG_of hc.1.1 rfl⟩
theorem zml5 {c ix id na : Nat} (h : zml c ix = some (id, na, 5)) : zmF id na true ∧ Cond.methodLinkNest (znm c) ix (zmi id).1 RX5 ∈ ztbN := by
  obtain ⟨⟨qc, qi, qd, qa, qk, qp⟩, -, rfl, rfl, rfl, rfl, hk, hc⟩ := zmlF h
  dsimp only at hk
  subst hk
  simp only [zlchk] at hc
  split at hc
  · cases hc
  · next r hr =>
    simp only [Bool.and_eq_true, decide_eq_true_eq, beq_iff_eq] at hc
    obtain ⟨hi, hF⟩ := zm_ok hr
    rw [hc.1.2, hc.2] at hF
    exact ⟨hF, by rw [hi]; exact zN_of hc.1.1 rfl⟩
theorem zml1 {c ix id na : Nat} (h : zml c ix = some (id, na, 1)) : ∃ np, na = np + 1 ∧ zmF id np false ∧ Cond.methodLink (znm c) ix (zmi id).1 ∈ ztbG ∧ (zmi id).1.name ≠ "<init>" ∧ (zcl.getD (id / 100) (RX0, TX0, 14)).1 = (zmi id).1.cls ∧ id / 100 < 7 := by
  obtain ⟨⟨qc, qi, qd, qa, qk, qp⟩, -, rfl, rfl, rfl, rfl, hk, hc⟩ := zmlF h
  dsimp only at hk
  subst hk
  simp only [zlchk] at hc
  split at hc
  · cases hc
  · next r hr =>
    simp only [Bool.and_eq_true, decide_eq_true_eq, beq_iff_eq, Bool.not_eq_true', beq_eq_false_iff_ne] at hc
    obtain ⟨⟨⟨⟨⟨h1, h2⟩, h3⟩, h4⟩, h5⟩, h6⟩ := hc
    obtain ⟨hi, hF⟩ := zm_ok hr
    rw [h2] at hF
    exact ⟨_, h3.symm, hF, by rw [hi]; exact zG_of h1 rfl, by rw [hi]; exact h4, by rw [hi]; exact h5, h6⟩
theorem zml2 {c ix id na : Nat} (h : zml c ix = some (id, na, 2)) : ∃ np, na = np + 1 ∧ zmF id np false ∧ Cond.methodLink (znm c) ix (zmi id).1 ∈ ztbG ∧ (zmi id).1.name = "<init>" ∧ (zmi id).2.2.2 = none := by
  obtain ⟨⟨qc, qi, qd, qa, qk, qp⟩, -, rfl, rfl, rfl, rfl, hk, hc⟩ := zmlF h
  dsimp only at hk
  subst hk
  simp only [zlchk] at hc
  split at hc
  · cases hc
  · next r hr =>
    simp only [Bool.and_eq_true, decide_eq_true_eq, beq_iff_eq, Bool.not_eq_true'] at hc
    obtain ⟨⟨⟨⟨h1, h2⟩, h3⟩, h4⟩, h5⟩ := hc
    obtain ⟨hi, hF⟩ := zm_ok hr
    rw [h2] at hF
    exact ⟨_, h3.symm, hF, by rw [hi]; exact zG_of h1 rfl, by rw [hi]; exact h4, by rw [hi]; exact h5⟩
theorem zml3 {c ix id na : Nat} (h : zml c ix = some (id, na, 3)) : Cond.methodLink (znm c) ix objectInit ∈ ztbG := by
  obtain ⟨⟨qc, qi, qd, qa, qk, qp⟩, -, rfl, rfl, rfl, rfl, hk, hc⟩ := zmlF h
  dsimp only at hk
  subst hk
  simp only [zlchk, decide_eq_true_eq] at hc
  exact zG_of hc rfl
theorem zml4 {c ix id na : Nat} (h : zml c ix = some (id, na, 4)) : Cond.methodLink (znm c) ix arraycopyName ∈ ztbG := by
  obtain ⟨⟨qc, qi, qd, qa, qk, qp⟩, -, rfl, rfl, rfl, rfl, hk, hc⟩ := zmlF h
  dsimp only at hk
  subst hk
  simp only [zlchk, decide_eq_true_eq] at hc
  exact zG_of hc rfl
theorem zml6 {c ix id na : Nat} (h : zml c ix = some (id, na, 6)) : Cond.methodLink (znm c) ix Lib.Math.max.name ∈ ztbG := by
  obtain ⟨⟨qc, qi, qd, qa, qk, qp⟩, -, rfl, rfl, rfl, rfl, hk, hc⟩ := zmlF h
  dsimp only at hk
  subst hk
  simp only [zlchk, decide_eq_true_eq] at hc
  exact zG_of hc rfl
theorem zml7 {c ix id na : Nat} (h : zml c ix = some (id, na, 7)) : Cond.methodLink (znm c) ix Lib.Math.min.name ∈ ztbG := by
  obtain ⟨⟨qc, qi, qd, qa, qk, qp⟩, -, rfl, rfl, rfl, rfl, hk, hc⟩ := zmlF h
  dsimp only at hk
  subst hk
  simp only [zlchk, decide_eq_true_eq] at hc
  exact zG_of hc rfl
end ZC
