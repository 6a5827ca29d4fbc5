/-! ===== the runner ===== -/
def zG (E : zE) (c : Nat) (cc : ByteArray) (nL : Nat) (rt : Option FieldType) (ini : Bool) (RC RS k mc ms : Nat) (Post : zPo) : zK := fun pc L st sh n I F cs zs =>
  ∀ p e s m args below meth cd R, zRm R RC RS k → zCx c cc nL rt ini p s m args meth cd → zTb E s → zWv E p e R s m args below meth cd nL (MQ below (zQ E Post) args s mc ms (zA E)) pc L st sh n I F cs zs
def zrun (E : zE) (c : Nat) (cc : ByteArray) (nL : Nat) (rt : Option FieldType) (ini : Bool) (S : zSs) (RC RS k mc ms : Nat) (Post : zPo) (stops : List Nat) : Nat → zK
  | 0 => zG E c cc nL rt ini RC RS k mc ms Post
  | f + 1 => fun pc L st sh n I F cs zs => if pc ∈ stops then zG E c cc nL rt ini RC RS k mc ms Post pc L st sh n I F cs zs
    else zstep E c ini rt S RC RS mc ms Post (decode cc pc) (zrun E c cc nL rt ini S RC RS k mc ms Post stops f) pc L st sh n I F cs zs
section ZRU
variable {E : zE} {c : Nat} {cc : ByteArray} {nL : Nat} {rt : Option FieldType} {ini : Bool} {S : zSs} {RC RS k mc ms : Nat} {Post : zPo}
theorem zstep_ok (hS : zSok E k S) {K : zK} (hK : ∀ pc L st sh n I F cs zs, K pc L st sh n I F cs zs → zG E c cc nL rt ini RC RS k mc ms Post pc L st sh n I F cs zs) {pc : Nat} {L : List (Option Value)} {st : List Value} {sh : Nat → zShp} {n : Nat} {I F : zI} {cs zs : Nat}
    (h : zstep E c ini rt S RC RS mc ms Post (decode cc pc) K pc L st sh n I F cs zs) : zG E c cc nL rt ini RC RS k mc ms Post pc L st sh n I F cs zs := by
  intro p e s m args below meth cd R hR X TB
  unfold zstep at h
  split at h
  · next i w hd => exact zins_ok X TB hR hS hd h (fun pc L st sh n I F cs zs hk => hK pc L st sh n I F cs zs hk p e s m args below meth cd R hR X TB)
  · exact h.elim
theorem zrun_ok (hS : zSok E k S) {stops : List Nat} : ∀ (f : Nat) (pc : Nat) (L : List (Option Value)) (st : List Value) (sh : Nat → zShp) (n : Nat) (I F : zI) (cs zs : Nat), zrun E c cc nL rt ini S RC RS k mc ms Post stops f pc L st sh n I F cs zs → zG E c cc nL rt ini RC RS k mc ms Post pc L st sh n I F cs zs := by
  intro f
  induction f with
  | zero => intro pc L st sh n I F cs zs h; exact h
  | succ f ih =>
    intro pc L st sh n I F cs zs h
    unfold zrun at h
    split at h
    · exact h
    · exact zstep_ok hS ih h
/-- the goal from a cut: one step, then on to the next cuts -/
theorem zgo1 (f : Nat) (stops : List Nat) (hS : zSok E k S) {pc : Nat} {L : List (Option Value)} {st : List Value} {sh : Nat → zShp} {n : Nat} {I F : zI} {cs zs : Nat}
    (h : zstep E c ini rt S RC RS mc ms Post (decode cc pc) (zrun E c cc nL rt ini S RC RS k mc ms Post stops f) pc L st sh n I F cs zs) : zG E c cc nL rt ini RC RS k mc ms Post pc L st sh n I F cs zs := zstep_ok hS (zrun_ok hS f) h
theorem zG_L {pc : Nat} {L L' : List (Option Value)} {st : List Value} {sh : Nat → zShp} {n : Nat} {I F : zI} {cs zs : Nat} (hl : L'.length = L.length) (h : ∀ j v, zget L' j = some v → zget L j = some v) (k0 : zG E c cc nL rt ini RC RS k mc ms Post pc L' st sh n I F cs zs) : zG E c cc nL rt ini RC RS k mc ms Post pc L st sh n I F cs zs :=
  fun p e s m args below meth cd R hR X TB H lo ls hI hv hn => k0 p e s m args below meth cd R hR X TB H lo ls hI ⟨hv.1, hv.2.1, hl.trans hv.2.2.1, fun j v hj => hv.2.2.2 j v (h j v hj)⟩ hn
theorem zG_post {P2 : zPo} {pc : Nat} {L : List (Option Value)} {st : List Value} {sh : Nat → zShp} {n : Nat} {I F : zI} {cs zs : Nat} (hp : ∀ v sh n I F, P2 v sh n I F → Post v sh n I F) (k0 : zG E c cc nL rt ini RC RS k mc ms P2 pc L st sh n I F cs zs) : zG E c cc nL rt ini RC RS k mc ms Post pc L st sh n I F cs zs := by
  intro p e s m args below meth cd R hR X TB H lo ls hI hv hn T hT XX
  obtain ⟨t, a, o, b1, b2, ⟨⟨v, sh', n', I', F', e1, e2, e3⟩, e4⟩, b4⟩ := k0 p e s m args below meth cd R hR X TB H lo ls hI hv hn T hT XX
  exact ⟨t, a, o, b1, b2, ⟨⟨v, sh', n', I', F', e1, hp _ _ _ _ _ e2, e3⟩, e4⟩, b4⟩
end ZRU
/-! the entry -/
def zsl : List Value → List (Option Value)
  | [] => []
  | .long x :: vs => some (.long x) :: none :: zsl vs
  | .double x :: vs => some (.double x) :: none :: zsl vs
  | v :: vs => some v :: zsl vs
def zpad : List (Option Value) → Nat → List (Option Value)
  | L, 0 => L
  | [], n + 1 => none :: zpad [] n
  | a :: L, n + 1 => a :: zpad L n
theorem zpad_len : ∀ (L : List (Option Value)) (n : Nat), L.length ≤ n → (zpad L n).length = n
  | [], 0, _ => rfl
  | [], n + 1, _ => by simp [zpad, zpad_len [] n]
  | a :: L, 0, h => by simp at h
  | a :: L, n + 1, h => by simp only [List.length_cons] at h; simp [zpad, zpad_len L n (by omega)]
theorem zpad_get : ∀ (L : List (Option Value)) (n j : Nat) (v : Value), zget (zpad L n) j = some v → zget L j = some v
  | L, 0, j, v, h => by unfold zpad at h; exact h
  | [], n + 1, 0, v, h => by simp [zpad, zget] at h
  | [], n + 1, j + 1, v, h => by
    have := zpad_get [] n j v (by simpa [zpad, zget] using h)
    simp [zget] at this
  | a :: L, n + 1, 0, v, h => by simpa [zpad, zget] using h
  | a :: L, n + 1, j + 1, v, h => by
    have := zpad_get L n j v (by simpa [zpad, zget] using h)
    simpa [zget] using this
theorem zsl_get (E : zE) : ∀ (vs : List Value) (i j : Nat) (v : Value), zget (zsl vs) j = some v → (i + j, zcv E v) ∈ lv_args i (vs.map (zcv E))
  | [], i, j, v, h => by simp [zsl, zget] at h
  | u :: vs, i, j, v, h => by
    have step2 : u.category = 2 → zsl (u :: vs) = some u :: none :: zsl vs := by cases u <;> simp [Value.category, zsl]
    have step1 : ¬ u.category = 2 → zsl (u :: vs) = some u :: zsl vs := by cases u <;> simp [Value.category, zsl]
    simp only [List.map_cons, lv_args, zcv_cat]
    by_cases hc : u.category = 2
    · rw [step2 hc] at h
      rw [if_pos hc]
      match j, h with
      | 0, h => simp only [zget, Option.some.injEq] at h; subst h; exact List.mem_cons_self
      | 1, h => simp [zget] at h
      | j + 2, h => exact List.mem_cons_of_mem _ (by have := zsl_get E vs (i + 2) j v h; rw [show i + (j + 2) = i + 2 + j by omega]; exact this)
    · rw [step1 hc] at h
      rw [if_neg hc]
      match j, h with
      | 0, h => simp only [zget, Option.some.injEq] at h; subst h; exact List.mem_cons_self
      | j + 1, h => exact List.mem_cons_of_mem _ (by have := zsl_get E vs (i + 1) j v h; rw [show i + (j + 1) = i + 1 + j by omega]; exact this)
theorem zsl_len (E : zE) : ∀ vs : List Value, (lg_sl (vs.map (zcv E))).length = (zsl vs).length
  | [] => rfl
  | u :: vs => by
    have ih := zsl_len E vs
    unfold lg_sl at ih ⊢
    rw [List.map_cons, List.flatMap_cons, List.length_append, ih, zcv_cat]
    cases u <;> simp [Value.category, zsl] <;> omega
theorem zOk_of {E : zE} {k id mc ms np : Nat} {as : List Value} {sh : Nat → zShp} {n : Nat} {I F : zI} {Post : zPo} (c : Nat) (cc : ByteArray) (nL : Nat) (rt : Option FieldType) {stat : Bool} (hF : zmF id np stat) (hc : znm c = (zmi id).1.cls) (hi : (zmi id).2 = (cc, nL, rt)) (ini : Bool) (hini : ini = true → (zmi id).1.name = "<init>") (hl : (zsl as).length ≤ nL)
    (h : zG E c cc nL rt ini mc ms k mc ms Post 0 (zpad (zsl as) nL) [] sh n I F 0 0) : zOk E (k + 1) id mc ms as sh n I F Post := by
  have e1 : (zmi id).2.1 = cc := by rw [hi]
  have e2 : (zmi id).2.2.1 = nL := by rw [hi]
  have e3 : (zmi id).2.2.2 = rt := by rw [hi]
  subst e1; subst e2; subst e3
  unfold zOk
  refine Met.ofW (cc := (zmi id).2.1) (maxL := (zmi id).2.2.1) (ret := (zmi id).2.2.2) hF.2.2.2.2.2.2.2 rfl ?_
  intro p e s m args below meth cd s₁ B hml hv
  obtain ⟨rfl, hW⟩ := hv
  have hts := atoms_spec (ws := zw id) B.pre
  rw [lg_entry_eq]
  refine h p e s m _ below meth cd _ ⟨rfl, rfl, Nat.le_refl _, by show 38 * k + 38 ≤ 38 * (k + 1); omega⟩ ⟨B.exec, B.bytes, hml, by rw [hc]; exact findClass_of_methodNamed B.named, fun w hw => hts w (List.mem_cons_of_mem _ hw), B.returns, B.notSynchronized, fun q => by rw [← hini q]; exact (name_of_methodNamed B.named B.method).1⟩ hW.1 s.heap [] _ ⟨hW.2, va_S.rf⟩ ?_ (by rw [hW.2.2.1]; rfl)
  have hl2 : (lg_sl (as.map (zcv E))).length ≤ (zmi id).2.2.1 := by rw [zsl_len]; exact hl
  have he := lv_entry (as.map (zcv E)) hl2
  refine ⟨he.1, he.2.1, zpad_len _ _ hl, fun j v hj => ?_⟩
  have := he.2.2 _ (zsl_get E as 0 j v (zpad_get _ _ _ _ hj))
  simpa using this
