/-! windows: a course as a tuple of its rows and numbers -/
abbrev zr : Type := Nat → Int32
abbrev zCr : Type := zr × zr × zr × zr × zr × zr × zr × zr
abbrev zCs : Type := Int32 × Int32 × Int32 × Int32 × Int32
abbrev zC : Type := zCr × zCs
def putC (o : Nat) (C : zCr) (I : zI) : zI := fun j => if j = o + 1 then C.1 else if j = o + 2 then C.2.1 else if j = o + 3 then C.2.2.1 else if j = o + 4 then C.2.2.2.1 else if j = o + 5 then C.2.2.2.2.1 else if j = o + 6 then C.2.2.2.2.2.1 else if j = o + 7 then C.2.2.2.2.2.2.1 else if j = o + 8 then C.2.2.2.2.2.2.2 else I j
def putf (o : Nat) (C : zCs) (F : zI) : zI := fun j => if j = o then (fun i => if i = 1 then C.1 else if i = 2 then C.2.1 else if i = 3 then C.2.2.1 else if i = 4 then C.2.2.2.1 else if i = 5 then C.2.2.2.2 else F j i) else F j
def getC (o : Nat) (I F : zI) : zC := ((I (o + 1), I (o + 2), I (o + 3), I (o + 4), I (o + 5), I (o + 6), I (o + 7), I (o + 8)), (F o 1, F o 2, F o 3, F o 4, F o 5))
theorem putC_get (o : Nat) (I F : zI) : putC o (getC o I F).1 I = I := by
  funext j
  unfold putC getC
  grind
theorem putf_get (o : Nat) (I F : zI) : putf o (getC o I F).2 F = F := by
  funext j i
  unfold putf getC
  by_cases h : j = o
  · subst h
    simp only [if_true]
    grind
  · simp only [h, if_false]
theorem putC_put (o : Nat) (C D : zCr) (I : zI) : putC o C (putC o D I) = putC o C I := by
  funext j
  unfold putC
  grind
theorem putf_put (o : Nat) (C D : zCs) (F : zI) : putf o C (putf o D F) = putf o C F := by
  funext j i
  unfold putf
  grind
theorem getC_put (o : Nat) (C : zC) (I F : zI) : getC o (putC o C.1 I) (putf o C.2 F) = C := by
  obtain ⟨⟨g, s, t, h, b, w, e, k⟩, ⟨td, li, wa, md, mp⟩⟩ := C
  simp [getC, putC, putf]
theorem putC_out {o j : Nat} (C : zCr) (I : zI) (h : ¬ (o < j ∧ j ≤ o + 8)) : putC o C I j = I j := by
  unfold putC
  grind
theorem putf_out {o j : Nat} (C : zCs) (F : zI) (h : ¬ j = o) : putf o C F j = F j := if_neg h
theorem putC_w {o j i : Nat} {x : Int32} (C : zCr) (I : zI) (h : ¬ (o < j ∧ j ≤ o + 8)) : zu2 (putC o C I) j i x = putC o C (zu2 I j i x) := by
  funext q
  unfold putC zu2 va_up
  grind
theorem pr17_0 (g s t h b w e k : zr) (I : zI) : putC 17 (g, s, t, h, b, w, e, k) I 18 = g := rfl
theorem pw17_0 (g s t h b w e k : zr) (I : zI) (i : Nat) (x : Int32) : zu2 (putC 17 (g, s, t, h, b, w, e, k) I) 18 i x = putC 17 (upd g i x, s, t, h, b, w, e, k) I := by
  funext q
  unfold putC zu2 va_up
  simp only
  by_cases hq : q = 18
  · subst hq; rfl
  · simp [hq]
theorem pv17_0 (g s t h b w e k : zr) (I : zI) (f : zr) : va_up (putC 17 (g, s, t, h, b, w, e, k) I) 18 f = putC 17 (f, s, t, h, b, w, e, k) I := by
  funext q
  unfold putC va_up
  simp only
  by_cases hq : q = 18
  · subst hq; rfl
  · simp [hq]
theorem pr17_1 (g s t h b w e k : zr) (I : zI) : putC 17 (g, s, t, h, b, w, e, k) I 19 = s := rfl
theorem pw17_1 (g s t h b w e k : zr) (I : zI) (i : Nat) (x : Int32) : zu2 (putC 17 (g, s, t, h, b, w, e, k) I) 19 i x = putC 17 (g, upd s i x, t, h, b, w, e, k) I := by
  funext q
  unfold putC zu2 va_up
  simp only
  by_cases hq : q = 19
  · subst hq; rfl
  · simp [hq]
theorem pv17_1 (g s t h b w e k : zr) (I : zI) (f : zr) : va_up (putC 17 (g, s, t, h, b, w, e, k) I) 19 f = putC 17 (g, f, t, h, b, w, e, k) I := by
  funext q
  unfold putC va_up
  simp only
  by_cases hq : q = 19
  · subst hq; rfl
  · simp [hq]
theorem pr17_2 (g s t h b w e k : zr) (I : zI) : putC 17 (g, s, t, h, b, w, e, k) I 20 = t := rfl
theorem pw17_2 (g s t h b w e k : zr) (I : zI) (i : Nat) (x : Int32) : zu2 (putC 17 (g, s, t, h, b, w, e, k) I) 20 i x = putC 17 (g, s, upd t i x, h, b, w, e, k) I := by
  funext q
  unfold putC zu2 va_up
  simp only
  by_cases hq : q = 20
  · subst hq; rfl
  · simp [hq]
theorem pv17_2 (g s t h b w e k : zr) (I : zI) (f : zr) : va_up (putC 17 (g, s, t, h, b, w, e, k) I) 20 f = putC 17 (g, s, f, h, b, w, e, k) I := by
  funext q
  unfold putC va_up
  simp only
  by_cases hq : q = 20
  · subst hq; rfl
  · simp [hq]
theorem pr17_3 (g s t h b w e k : zr) (I : zI) : putC 17 (g, s, t, h, b, w, e, k) I 21 = h := rfl
theorem pw17_3 (g s t h b w e k : zr) (I : zI) (i : Nat) (x : Int32) : zu2 (putC 17 (g, s, t, h, b, w, e, k) I) 21 i x = putC 17 (g, s, t, upd h i x, b, w, e, k) I := by
  funext q
  unfold putC zu2 va_up
  simp only
  by_cases hq : q = 21
  · subst hq; rfl
  · simp [hq]
theorem pv17_3 (g s t h b w e k : zr) (I : zI) (f : zr) : va_up (putC 17 (g, s, t, h, b, w, e, k) I) 21 f = putC 17 (g, s, t, f, b, w, e, k) I := by
  funext q
  unfold putC va_up
  simp only
  by_cases hq : q = 21
  · subst hq; rfl
  · simp [hq]
theorem pr17_4 (g s t h b w e k : zr) (I : zI) : putC 17 (g, s, t, h, b, w, e, k) I 22 = b := rfl
theorem pw17_4 (g s t h b w e k : zr) (I : zI) (i : Nat) (x : Int32) : zu2 (putC 17 (g, s, t, h, b, w, e, k) I) 22 i x = putC 17 (g, s, t, h, upd b i x, w, e, k) I := by
  funext q
  unfold putC zu2 va_up
  simp only
  by_cases hq : q = 22
  · subst hq; rfl
  · simp [hq]
theorem pv17_4 (g s t h b w e k : zr) (I : zI) (f : zr) : va_up (putC 17 (g, s, t, h, b, w, e, k) I) 22 f = putC 17 (g, s, t, h, f, w, e, k) I := by
  funext q
  unfold putC va_up
  simp only
  by_cases hq : q = 22
  · subst hq; rfl
  · simp [hq]
theorem pr17_5 (g s t h b w e k : zr) (I : zI) : putC 17 (g, s, t, h, b, w, e, k) I 23 = w := rfl
theorem pw17_5 (g s t h b w e k : zr) (I : zI) (i : Nat) (x : Int32) : zu2 (putC 17 (g, s, t, h, b, w, e, k) I) 23 i x = putC 17 (g, s, t, h, b, upd w i x, e, k) I := by
  funext q
  unfold putC zu2 va_up
  simp only
  by_cases hq : q = 23
  · subst hq; rfl
  · simp [hq]
theorem pv17_5 (g s t h b w e k : zr) (I : zI) (f : zr) : va_up (putC 17 (g, s, t, h, b, w, e, k) I) 23 f = putC 17 (g, s, t, h, b, f, e, k) I := by
  funext q
  unfold putC va_up
  simp only
  by_cases hq : q = 23
  · subst hq; rfl
  · simp [hq]
theorem pr17_6 (g s t h b w e k : zr) (I : zI) : putC 17 (g, s, t, h, b, w, e, k) I 24 = e := rfl
theorem pw17_6 (g s t h b w e k : zr) (I : zI) (i : Nat) (x : Int32) : zu2 (putC 17 (g, s, t, h, b, w, e, k) I) 24 i x = putC 17 (g, s, t, h, b, w, upd e i x, k) I := by
  funext q
  unfold putC zu2 va_up
  simp only
  by_cases hq : q = 24
  · subst hq; rfl
  · simp [hq]
theorem pv17_6 (g s t h b w e k : zr) (I : zI) (f : zr) : va_up (putC 17 (g, s, t, h, b, w, e, k) I) 24 f = putC 17 (g, s, t, h, b, w, f, k) I := by
  funext q
  unfold putC va_up
  simp only
  by_cases hq : q = 24
  · subst hq; rfl
  · simp [hq]
theorem pr17_7 (g s t h b w e k : zr) (I : zI) : putC 17 (g, s, t, h, b, w, e, k) I 25 = k := rfl
theorem pw17_7 (g s t h b w e k : zr) (I : zI) (i : Nat) (x : Int32) : zu2 (putC 17 (g, s, t, h, b, w, e, k) I) 25 i x = putC 17 (g, s, t, h, b, w, e, upd k i x) I := by
  funext q
  unfold putC zu2 va_up
  simp only
  by_cases hq : q = 25
  · subst hq; rfl
  · simp [hq]
theorem pv17_7 (g s t h b w e k : zr) (I : zI) (f : zr) : va_up (putC 17 (g, s, t, h, b, w, e, k) I) 25 f = putC 17 (g, s, t, h, b, w, e, f) I := by
  funext q
  unfold putC va_up
  simp only
  by_cases hq : q = 25
  · subst hq; rfl
  · simp [hq]
theorem fr17_0 (td li wa md mp : Int32) (F : zI) : putf 17 (td, li, wa, md, mp) F 17 1 = td := rfl
theorem fw17_0 (td li wa md mp : Int32) (F : zI) (x : Int32) : zu2 (putf 17 (td, li, wa, md, mp) F) 17 1 x = putf 17 (x, li, wa, md, mp) F := by
  funext q p
  unfold putf zu2 va_up upd
  simp only
  by_cases hq : q = 17
  · subst hq
    by_cases hp : p = 1
    · subst hp; rfl
    · simp [hp]
  · simp [hq]
theorem fr17_1 (td li wa md mp : Int32) (F : zI) : putf 17 (td, li, wa, md, mp) F 17 2 = li := rfl
theorem fw17_1 (td li wa md mp : Int32) (F : zI) (x : Int32) : zu2 (putf 17 (td, li, wa, md, mp) F) 17 2 x = putf 17 (td, x, wa, md, mp) F := by
  funext q p
  unfold putf zu2 va_up upd
  simp only
  by_cases hq : q = 17
  · subst hq
    by_cases hp : p = 2
    · subst hp; rfl
    · simp [hp]
  · simp [hq]
theorem fr17_2 (td li wa md mp : Int32) (F : zI) : putf 17 (td, li, wa, md, mp) F 17 3 = wa := rfl
theorem fw17_2 (td li wa md mp : Int32) (F : zI) (x : Int32) : zu2 (putf 17 (td, li, wa, md, mp) F) 17 3 x = putf 17 (td, li, x, md, mp) F := by
  funext q p
  unfold putf zu2 va_up upd
  simp only
  by_cases hq : q = 17
  · subst hq
    by_cases hp : p = 3
    · subst hp; rfl
    · simp [hp]
  · simp [hq]
theorem fr17_3 (td li wa md mp : Int32) (F : zI) : putf 17 (td, li, wa, md, mp) F 17 4 = md := rfl
theorem fw17_3 (td li wa md mp : Int32) (F : zI) (x : Int32) : zu2 (putf 17 (td, li, wa, md, mp) F) 17 4 x = putf 17 (td, li, wa, x, mp) F := by
  funext q p
  unfold putf zu2 va_up upd
  simp only
  by_cases hq : q = 17
  · subst hq
    by_cases hp : p = 4
    · subst hp; rfl
    · simp [hp]
  · simp [hq]
theorem fr17_4 (td li wa md mp : Int32) (F : zI) : putf 17 (td, li, wa, md, mp) F 17 5 = mp := rfl
theorem fw17_4 (td li wa md mp : Int32) (F : zI) (x : Int32) : zu2 (putf 17 (td, li, wa, md, mp) F) 17 5 x = putf 17 (td, li, wa, md, x) F := by
  funext q p
  unfold putf zu2 va_up upd
  simp only
  by_cases hq : q = 17
  · subst hq
    by_cases hp : p = 5
    · subst hp; rfl
    · simp [hp]
  · simp [hq]
theorem pr26_0 (g s t h b w e k : zr) (I : zI) : putC 26 (g, s, t, h, b, w, e, k) I 27 = g := rfl
theorem pw26_0 (g s t h b w e k : zr) (I : zI) (i : Nat) (x : Int32) : zu2 (putC 26 (g, s, t, h, b, w, e, k) I) 27 i x = putC 26 (upd g i x, s, t, h, b, w, e, k) I := by
  funext q
  unfold putC zu2 va_up
  simp only
  by_cases hq : q = 27
  · subst hq; rfl
  · simp [hq]
theorem pv26_0 (g s t h b w e k : zr) (I : zI) (f : zr) : va_up (putC 26 (g, s, t, h, b, w, e, k) I) 27 f = putC 26 (f, s, t, h, b, w, e, k) I := by
  funext q
  unfold putC va_up
  simp only
  by_cases hq : q = 27
  · subst hq; rfl
  · simp [hq]
theorem pr26_1 (g s t h b w e k : zr) (I : zI) : putC 26 (g, s, t, h, b, w, e, k) I 28 = s := rfl
theorem pw26_1 (g s t h b w e k : zr) (I : zI) (i : Nat) (x : Int32) : zu2 (putC 26 (g, s, t, h, b, w, e, k) I) 28 i x = putC 26 (g, upd s i x, t, h, b, w, e, k) I := by
  funext q
  unfold putC zu2 va_up
  simp only
  by_cases hq : q = 28
  · subst hq; rfl
  · simp [hq]
theorem pv26_1 (g s t h b w e k : zr) (I : zI) (f : zr) : va_up (putC 26 (g, s, t, h, b, w, e, k) I) 28 f = putC 26 (g, f, t, h, b, w, e, k) I := by
  funext q
  unfold putC va_up
  simp only
  by_cases hq : q = 28
  · subst hq; rfl
  · simp [hq]
theorem pr26_2 (g s t h b w e k : zr) (I : zI) : putC 26 (g, s, t, h, b, w, e, k) I 29 = t := rfl
theorem pw26_2 (g s t h b w e k : zr) (I : zI) (i : Nat) (x : Int32) : zu2 (putC 26 (g, s, t, h, b, w, e, k) I) 29 i x = putC 26 (g, s, upd t i x, h, b, w, e, k) I := by
  funext q
  unfold putC zu2 va_up
  simp only
  by_cases hq : q = 29
  · subst hq; rfl
  · simp [hq]
theorem pv26_2 (g s t h b w e k : zr) (I : zI) (f : zr) : va_up (putC 26 (g, s, t, h, b, w, e, k) I) 29 f = putC 26 (g, s, f, h, b, w, e, k) I := by
  funext q
  unfold putC va_up
  simp only
  by_cases hq : q = 29
  · subst hq; rfl
  · simp [hq]
theorem pr26_3 (g s t h b w e k : zr) (I : zI) : putC 26 (g, s, t, h, b, w, e, k) I 30 = h := rfl
theorem pw26_3 (g s t h b w e k : zr) (I : zI) (i : Nat) (x : Int32) : zu2 (putC 26 (g, s, t, h, b, w, e, k) I) 30 i x = putC 26 (g, s, t, upd h i x, b, w, e, k) I := by
  funext q
  unfold putC zu2 va_up
  simp only
  by_cases hq : q = 30
  · subst hq; rfl
  · simp [hq]
theorem pv26_3 (g s t h b w e k : zr) (I : zI) (f : zr) : va_up (putC 26 (g, s, t, h, b, w, e, k) I) 30 f = putC 26 (g, s, t, f, b, w, e, k) I := by
  funext q
  unfold putC va_up
  simp only
  by_cases hq : q = 30
  · subst hq; rfl
  · simp [hq]
theorem pr26_4 (g s t h b w e k : zr) (I : zI) : putC 26 (g, s, t, h, b, w, e, k) I 31 = b := rfl
theorem pw26_4 (g s t h b w e k : zr) (I : zI) (i : Nat) (x : Int32) : zu2 (putC 26 (g, s, t, h, b, w, e, k) I) 31 i x = putC 26 (g, s, t, h, upd b i x, w, e, k) I := by
  funext q
  unfold putC zu2 va_up
  simp only
  by_cases hq : q = 31
  · subst hq; rfl
  · simp [hq]
theorem pv26_4 (g s t h b w e k : zr) (I : zI) (f : zr) : va_up (putC 26 (g, s, t, h, b, w, e, k) I) 31 f = putC 26 (g, s, t, h, f, w, e, k) I := by
  funext q
  unfold putC va_up
  simp only
  by_cases hq : q = 31
  · subst hq; rfl
  · simp [hq]
theorem pr26_5 (g s t h b w e k : zr) (I : zI) : putC 26 (g, s, t, h, b, w, e, k) I 32 = w := rfl
theorem pw26_5 (g s t h b w e k : zr) (I : zI) (i : Nat) (x : Int32) : zu2 (putC 26 (g, s, t, h, b, w, e, k) I) 32 i x = putC 26 (g, s, t, h, b, upd w i x, e, k) I := by
  funext q
  unfold putC zu2 va_up
  simp only
  by_cases hq : q = 32
  · subst hq; rfl
  · simp [hq]
theorem pv26_5 (g s t h b w e k : zr) (I : zI) (f : zr) : va_up (putC 26 (g, s, t, h, b, w, e, k) I) 32 f = putC 26 (g, s, t, h, b, f, e, k) I := by
  funext q
  unfold putC va_up
  simp only
  by_cases hq : q = 32
  · subst hq; rfl
  · simp [hq]
theorem pr26_6 (g s t h b w e k : zr) (I : zI) : putC 26 (g, s, t, h, b, w, e, k) I 33 = e := rfl
theorem pw26_6 (g s t h b w e k : zr) (I : zI) (i : Nat) (x : Int32) : zu2 (putC 26 (g, s, t, h, b, w, e, k) I) 33 i x = putC 26 (g, s, t, h, b, w, upd e i x, k) I := by
  funext q
  unfold putC zu2 va_up
  simp only
  by_cases hq : q = 33
  · subst hq; rfl
  · simp [hq]
theorem pv26_6 (g s t h b w e k : zr) (I : zI) (f : zr) : va_up (putC 26 (g, s, t, h, b, w, e, k) I) 33 f = putC 26 (g, s, t, h, b, w, f, k) I := by
  funext q
  unfold putC va_up
  simp only
  by_cases hq : q = 33
  · subst hq; rfl
  · simp [hq]
theorem pr26_7 (g s t h b w e k : zr) (I : zI) : putC 26 (g, s, t, h, b, w, e, k) I 34 = k := rfl
theorem pw26_7 (g s t h b w e k : zr) (I : zI) (i : Nat) (x : Int32) : zu2 (putC 26 (g, s, t, h, b, w, e, k) I) 34 i x = putC 26 (g, s, t, h, b, w, e, upd k i x) I := by
  funext q
  unfold putC zu2 va_up
  simp only
  by_cases hq : q = 34
  · subst hq; rfl
  · simp [hq]
theorem pv26_7 (g s t h b w e k : zr) (I : zI) (f : zr) : va_up (putC 26 (g, s, t, h, b, w, e, k) I) 34 f = putC 26 (g, s, t, h, b, w, e, f) I := by
  funext q
  unfold putC va_up
  simp only
  by_cases hq : q = 34
  · subst hq; rfl
  · simp [hq]
theorem fr26_0 (td li wa md mp : Int32) (F : zI) : putf 26 (td, li, wa, md, mp) F 26 1 = td := rfl
theorem fw26_0 (td li wa md mp : Int32) (F : zI) (x : Int32) : zu2 (putf 26 (td, li, wa, md, mp) F) 26 1 x = putf 26 (x, li, wa, md, mp) F := by
  funext q p
  unfold putf zu2 va_up upd
  simp only
  by_cases hq : q = 26
  · subst hq
    by_cases hp : p = 1
    · subst hp; rfl
    · simp [hp]
  · simp [hq]
theorem fr26_1 (td li wa md mp : Int32) (F : zI) : putf 26 (td, li, wa, md, mp) F 26 2 = li := rfl
theorem fw26_1 (td li wa md mp : Int32) (F : zI) (x : Int32) : zu2 (putf 26 (td, li, wa, md, mp) F) 26 2 x = putf 26 (td, x, wa, md, mp) F := by
  funext q p
  unfold putf zu2 va_up upd
  simp only
  by_cases hq : q = 26
  · subst hq
    by_cases hp : p = 2
    · subst hp; rfl
    · simp [hp]
  · simp [hq]
theorem fr26_2 (td li wa md mp : Int32) (F : zI) : putf 26 (td, li, wa, md, mp) F 26 3 = wa := rfl
theorem fw26_2 (td li wa md mp : Int32) (F : zI) (x : Int32) : zu2 (putf 26 (td, li, wa, md, mp) F) 26 3 x = putf 26 (td, li, x, md, mp) F := by
  funext q p
  unfold putf zu2 va_up upd
  simp only
  by_cases hq : q = 26
  · subst hq
    by_cases hp : p = 3
    · subst hp; rfl
    · simp [hp]
  · simp [hq]
theorem fr26_3 (td li wa md mp : Int32) (F : zI) : putf 26 (td, li, wa, md, mp) F 26 4 = md := rfl
theorem fw26_3 (td li wa md mp : Int32) (F : zI) (x : Int32) : zu2 (putf 26 (td, li, wa, md, mp) F) 26 4 x = putf 26 (td, li, wa, x, mp) F := by
  funext q p
  unfold putf zu2 va_up upd
  simp only
  by_cases hq : q = 26
  · subst hq
    by_cases hp : p = 4
    · subst hp; rfl
    · simp [hp]
  · simp [hq]
theorem fr26_4 (td li wa md mp : Int32) (F : zI) : putf 26 (td, li, wa, md, mp) F 26 5 = mp := rfl
theorem fw26_4 (td li wa md mp : Int32) (F : zI) (x : Int32) : zu2 (putf 26 (td, li, wa, md, mp) F) 26 5 x = putf 26 (td, li, wa, md, x) F := by
  funext q p
  unfold putf zu2 va_up upd
  simp only
  by_cases hq : q = 26
  · subst hq
    by_cases hp : p = 5
    · subst hp; rfl
    · simp [hp]
  · simp [hq]
abbrev zH : Type := zr × zr × zr × zr × zr × zr × zr × zr × Int32 × Int32 × Int32 × Int32 × Int32
def hl (I F : zI) : zH := (I 9, I 10, I 11, I 12, I 13, I 14, I 15, I 16, F 8 0, F 8 3, F 8 8, F 8 9, F 8 12)
def hso (H : zH) : zr := H.1
theorem hh_so (I F : zI) : hso (hl I F) = I 9 := rfl
def hte (H : zH) : zr := H.2.1
theorem hh_te (I F : zI) : hte (hl I F) = I 10 := rfl
def hfi (H : zH) : zr := H.2.2.1
theorem hh_fi (I F : zI) : hfi (hl I F) = I 11 := rfl
def hwh (H : zH) : zr := H.2.2.2.1
theorem hh_wh (I F : zI) : hwh (hl I F) = I 12 := rfl
def hbe (H : zH) : zr := H.2.2.2.2.1
theorem hh_be (I F : zI) : hbe (hl I F) = I 13 := rfl
def hcu (H : zH) : zr := H.2.2.2.2.2.1
theorem hh_cu (I F : zI) : hcu (hl I F) = I 14 := rfl
def hek (H : zH) : zr := H.2.2.2.2.2.2.1
theorem hh_ek (I F : zI) : hek (hl I F) = I 15 := rfl
def hed (H : zH) : zr := H.2.2.2.2.2.2.2.1
theorem hh_ed (I F : zI) : hed (hl I F) = I 16 := rfl
def hnp (H : zH) : Int32 := H.2.2.2.2.2.2.2.2.1
theorem hh_np (I F : zI) : hnp (hl I F) = F 8 0 := rfl
def hnq (H : zH) : Int32 := H.2.2.2.2.2.2.2.2.2.1
theorem hh_nq (I F : zI) : hnq (hl I F) = F 8 3 := rfl
def hmo (H : zH) : Int32 := H.2.2.2.2.2.2.2.2.2.2.1
theorem hh_mo (I F : zI) : hmo (hl I F) = F 8 8 := rfl
def hne (H : zH) : Int32 := H.2.2.2.2.2.2.2.2.2.2.2.1
theorem hh_ne (I F : zI) : hne (hl I F) = F 8 9 := rfl
def hpr (H : zH) : Int32 := H.2.2.2.2.2.2.2.2.2.2.2.2
theorem hh_pr (I F : zI) : hpr (hl I F) = F 8 12 := rfl
def cg (C : zC) : zr := C.1.1
theorem cc_g (g s t h b w e k : zr) (td li wa md mp : Int32) : cg ((g, s, t, h, b, w, e, k), (td, li, wa, md, mp)) = g := rfl
def cs (C : zC) : zr := C.1.2.1
theorem cc_s (g s t h b w e k : zr) (td li wa md mp : Int32) : cs ((g, s, t, h, b, w, e, k), (td, li, wa, md, mp)) = s := rfl
def ct (C : zC) : zr := C.1.2.2.1
theorem cc_t (g s t h b w e k : zr) (td li wa md mp : Int32) : ct ((g, s, t, h, b, w, e, k), (td, li, wa, md, mp)) = t := rfl
def ch (C : zC) : zr := C.1.2.2.2.1
theorem cc_h (g s t h b w e k : zr) (td li wa md mp : Int32) : ch ((g, s, t, h, b, w, e, k), (td, li, wa, md, mp)) = h := rfl
def cb (C : zC) : zr := C.1.2.2.2.2.1
theorem cc_b (g s t h b w e k : zr) (td li wa md mp : Int32) : cb ((g, s, t, h, b, w, e, k), (td, li, wa, md, mp)) = b := rfl
def cw (C : zC) : zr := C.1.2.2.2.2.2.1
theorem cc_w (g s t h b w e k : zr) (td li wa md mp : Int32) : cw ((g, s, t, h, b, w, e, k), (td, li, wa, md, mp)) = w := rfl
def ce (C : zC) : zr := C.1.2.2.2.2.2.2.1
theorem cc_e (g s t h b w e k : zr) (td li wa md mp : Int32) : ce ((g, s, t, h, b, w, e, k), (td, li, wa, md, mp)) = e := rfl
def ck (C : zC) : zr := C.1.2.2.2.2.2.2.2
theorem cc_k (g s t h b w e k : zr) (td li wa md mp : Int32) : ck ((g, s, t, h, b, w, e, k), (td, li, wa, md, mp)) = k := rfl
def ctd (C : zC) : Int32 := C.2.1
theorem cc_td (g s t h b w e k : zr) (td li wa md mp : Int32) : ctd ((g, s, t, h, b, w, e, k), (td, li, wa, md, mp)) = td := rfl
def cli (C : zC) : Int32 := C.2.2.1
theorem cc_li (g s t h b w e k : zr) (td li wa md mp : Int32) : cli ((g, s, t, h, b, w, e, k), (td, li, wa, md, mp)) = li := rfl
def cwa (C : zC) : Int32 := C.2.2.2.1
theorem cc_wa (g s t h b w e k : zr) (td li wa md mp : Int32) : cwa ((g, s, t, h, b, w, e, k), (td, li, wa, md, mp)) = wa := rfl
def cmd (C : zC) : Int32 := C.2.2.2.2.1
theorem cc_md (g s t h b w e k : zr) (td li wa md mp : Int32) : cmd ((g, s, t, h, b, w, e, k), (td, li, wa, md, mp)) = md := rfl
def cmp (C : zC) : Int32 := C.2.2.2.2.2
theorem cc_mp (g s t h b w e k : zr) (td li wa md mp : Int32) : cmp ((g, s, t, h, b, w, e, k), (td, li, wa, md, mp)) = mp := rfl
theorem hl_p17 (C : zCr) (D : zCs) (I F : zI) : hl (putC 17 C I) (putf 17 D F) = hl I F := rfl
theorem hl_p26 (C : zCr) (D : zCs) (I F : zI) : hl (putC 26 C I) (putf 26 D F) = hl I F := rfl
theorem po17_3 (C : zCr) (I : zI) : putC 17 C I 3 = I 3 := rfl
theorem po17_5 (C : zCr) (I : zI) : putC 17 C I 5 = I 5 := rfl
theorem po17_7 (C : zCr) (I : zI) : putC 17 C I 7 = I 7 := rfl
theorem po17_9 (C : zCr) (I : zI) : putC 17 C I 9 = I 9 := rfl
theorem po17_10 (C : zCr) (I : zI) : putC 17 C I 10 = I 10 := rfl
theorem po17_11 (C : zCr) (I : zI) : putC 17 C I 11 = I 11 := rfl
theorem po17_12 (C : zCr) (I : zI) : putC 17 C I 12 = I 12 := rfl
theorem po17_13 (C : zCr) (I : zI) : putC 17 C I 13 = I 13 := rfl
theorem po17_14 (C : zCr) (I : zI) : putC 17 C I 14 = I 14 := rfl
theorem po17_15 (C : zCr) (I : zI) : putC 17 C I 15 = I 15 := rfl
theorem po17_16 (C : zCr) (I : zI) : putC 17 C I 16 = I 16 := rfl
theorem po17_35 (C : zCr) (I : zI) : putC 17 C I 35 = I 35 := rfl
theorem po17_37 (C : zCr) (I : zI) : putC 17 C I 37 = I 37 := rfl
theorem po17_38 (C : zCr) (I : zI) : putC 17 C I 38 = I 38 := rfl
theorem po17_39 (C : zCr) (I : zI) : putC 17 C I 39 = I 39 := rfl
theorem po17_40 (C : zCr) (I : zI) : putC 17 C I 40 = I 40 := rfl
theorem po17_43 (C : zCr) (I : zI) : putC 17 C I 43 = I 43 := rfl
theorem po17_45 (C : zCr) (I : zI) : putC 17 C I 45 = I 45 := rfl
theorem po17_47 (C : zCr) (I : zI) : putC 17 C I 47 = I 47 := rfl
theorem po17_49 (C : zCr) (I : zI) : putC 17 C I 49 = I 49 := rfl
theorem po17_51 (C : zCr) (I : zI) : putC 17 C I 51 = I 51 := rfl
theorem po17_52 (C : zCr) (I : zI) : putC 17 C I 52 = I 52 := rfl
theorem po17_53 (C : zCr) (I : zI) : putC 17 C I 53 = I 53 := rfl
theorem po17_54 (C : zCr) (I : zI) : putC 17 C I 54 = I 54 := rfl
theorem po17_55 (C : zCr) (I : zI) : putC 17 C I 55 = I 55 := rfl
theorem po17_56 (C : zCr) (I : zI) : putC 17 C I 56 = I 56 := rfl
theorem po17_57 (C : zCr) (I : zI) : putC 17 C I 57 = I 57 := rfl
theorem po17_58 (C : zCr) (I : zI) : putC 17 C I 58 = I 58 := rfl
theorem po17_59 (C : zCr) (I : zI) : putC 17 C I 59 = I 59 := rfl
theorem po17_60 (C : zCr) (I : zI) : putC 17 C I 60 = I 60 := rfl
theorem po17_61 (C : zCr) (I : zI) : putC 17 C I 61 = I 61 := rfl
theorem po17_62 (C : zCr) (I : zI) : putC 17 C I 62 = I 62 := rfl
theorem po17_63 (C : zCr) (I : zI) : putC 17 C I 63 = I 63 := rfl
theorem po17_64 (C : zCr) (I : zI) : putC 17 C I 64 = I 64 := rfl
theorem po17_65 (C : zCr) (I : zI) : putC 17 C I 65 = I 65 := rfl
theorem po17_66 (C : zCr) (I : zI) : putC 17 C I 66 = I 66 := rfl
theorem po17_67 (C : zCr) (I : zI) : putC 17 C I 67 = I 67 := rfl
theorem po17_68 (C : zCr) (I : zI) : putC 17 C I 68 = I 68 := rfl
theorem po17_69 (C : zCr) (I : zI) : putC 17 C I 69 = I 69 := rfl
theorem po17_70 (C : zCr) (I : zI) : putC 17 C I 70 = I 70 := rfl
theorem po17_71 (C : zCr) (I : zI) : putC 17 C I 71 = I 71 := rfl
theorem po17_72 (C : zCr) (I : zI) : putC 17 C I 72 = I 72 := rfl
theorem po17_73 (C : zCr) (I : zI) : putC 17 C I 73 = I 73 := rfl
theorem po17_74 (C : zCr) (I : zI) : putC 17 C I 74 = I 74 := rfl
theorem po17_75 (C : zCr) (I : zI) : putC 17 C I 75 = I 75 := rfl
theorem po17_76 (C : zCr) (I : zI) : putC 17 C I 76 = I 76 := rfl
theorem po17_27 (C : zCr) (I : zI) : putC 17 C I 27 = I 27 := rfl
theorem po17_28 (C : zCr) (I : zI) : putC 17 C I 28 = I 28 := rfl
theorem po17_29 (C : zCr) (I : zI) : putC 17 C I 29 = I 29 := rfl
theorem po17_30 (C : zCr) (I : zI) : putC 17 C I 30 = I 30 := rfl
theorem po17_31 (C : zCr) (I : zI) : putC 17 C I 31 = I 31 := rfl
theorem po17_32 (C : zCr) (I : zI) : putC 17 C I 32 = I 32 := rfl
theorem po17_33 (C : zCr) (I : zI) : putC 17 C I 33 = I 33 := rfl
theorem po17_34 (C : zCr) (I : zI) : putC 17 C I 34 = I 34 := rfl
theorem pof17_0 (C : zCs) (F : zI) : putf 17 C F 0 = F 0 := rfl
theorem pof17_2 (C : zCs) (F : zI) : putf 17 C F 2 = F 2 := rfl
theorem pof17_4 (C : zCs) (F : zI) : putf 17 C F 4 = F 4 := rfl
theorem pof17_6 (C : zCs) (F : zI) : putf 17 C F 6 = F 6 := rfl
theorem pof17_8 (C : zCs) (F : zI) : putf 17 C F 8 = F 8 := rfl
theorem pof17_36 (C : zCs) (F : zI) : putf 17 C F 36 = F 36 := rfl
theorem pof17_42 (C : zCs) (F : zI) : putf 17 C F 42 = F 42 := rfl
theorem pof17_44 (C : zCs) (F : zI) : putf 17 C F 44 = F 44 := rfl
theorem pof17_46 (C : zCs) (F : zI) : putf 17 C F 46 = F 46 := rfl
theorem pof17_48 (C : zCs) (F : zI) : putf 17 C F 48 = F 48 := rfl
theorem pof17_50 (C : zCs) (F : zI) : putf 17 C F 50 = F 50 := rfl
theorem pof17_26 (C : zCs) (F : zI) : putf 17 C F 26 = F 26 := rfl
theorem po26_3 (C : zCr) (I : zI) : putC 26 C I 3 = I 3 := rfl
theorem po26_5 (C : zCr) (I : zI) : putC 26 C I 5 = I 5 := rfl
theorem po26_7 (C : zCr) (I : zI) : putC 26 C I 7 = I 7 := rfl
theorem po26_9 (C : zCr) (I : zI) : putC 26 C I 9 = I 9 := rfl
theorem po26_10 (C : zCr) (I : zI) : putC 26 C I 10 = I 10 := rfl
theorem po26_11 (C : zCr) (I : zI) : putC 26 C I 11 = I 11 := rfl
theorem po26_12 (C : zCr) (I : zI) : putC 26 C I 12 = I 12 := rfl
theorem po26_13 (C : zCr) (I : zI) : putC 26 C I 13 = I 13 := rfl
theorem po26_14 (C : zCr) (I : zI) : putC 26 C I 14 = I 14 := rfl
theorem po26_15 (C : zCr) (I : zI) : putC 26 C I 15 = I 15 := rfl
theorem po26_16 (C : zCr) (I : zI) : putC 26 C I 16 = I 16 := rfl
theorem po26_35 (C : zCr) (I : zI) : putC 26 C I 35 = I 35 := rfl
theorem po26_37 (C : zCr) (I : zI) : putC 26 C I 37 = I 37 := rfl
theorem po26_38 (C : zCr) (I : zI) : putC 26 C I 38 = I 38 := rfl
theorem po26_39 (C : zCr) (I : zI) : putC 26 C I 39 = I 39 := rfl
theorem po26_40 (C : zCr) (I : zI) : putC 26 C I 40 = I 40 := rfl
theorem po26_43 (C : zCr) (I : zI) : putC 26 C I 43 = I 43 := rfl
theorem po26_45 (C : zCr) (I : zI) : putC 26 C I 45 = I 45 := rfl
theorem po26_47 (C : zCr) (I : zI) : putC 26 C I 47 = I 47 := rfl
theorem po26_49 (C : zCr) (I : zI) : putC 26 C I 49 = I 49 := rfl
theorem po26_51 (C : zCr) (I : zI) : putC 26 C I 51 = I 51 := rfl
theorem po26_52 (C : zCr) (I : zI) : putC 26 C I 52 = I 52 := rfl
theorem po26_53 (C : zCr) (I : zI) : putC 26 C I 53 = I 53 := rfl
theorem po26_54 (C : zCr) (I : zI) : putC 26 C I 54 = I 54 := rfl
theorem po26_55 (C : zCr) (I : zI) : putC 26 C I 55 = I 55 := rfl
theorem po26_56 (C : zCr) (I : zI) : putC 26 C I 56 = I 56 := rfl
theorem po26_57 (C : zCr) (I : zI) : putC 26 C I 57 = I 57 := rfl
theorem po26_58 (C : zCr) (I : zI) : putC 26 C I 58 = I 58 := rfl
theorem po26_59 (C : zCr) (I : zI) : putC 26 C I 59 = I 59 := rfl
theorem po26_60 (C : zCr) (I : zI) : putC 26 C I 60 = I 60 := rfl
theorem po26_61 (C : zCr) (I : zI) : putC 26 C I 61 = I 61 := rfl
theorem po26_62 (C : zCr) (I : zI) : putC 26 C I 62 = I 62 := rfl
theorem po26_63 (C : zCr) (I : zI) : putC 26 C I 63 = I 63 := rfl
theorem po26_64 (C : zCr) (I : zI) : putC 26 C I 64 = I 64 := rfl
theorem po26_65 (C : zCr) (I : zI) : putC 26 C I 65 = I 65 := rfl
theorem po26_66 (C : zCr) (I : zI) : putC 26 C I 66 = I 66 := rfl
theorem po26_67 (C : zCr) (I : zI) : putC 26 C I 67 = I 67 := rfl
theorem po26_68 (C : zCr) (I : zI) : putC 26 C I 68 = I 68 := rfl
theorem po26_69 (C : zCr) (I : zI) : putC 26 C I 69 = I 69 := rfl
theorem po26_70 (C : zCr) (I : zI) : putC 26 C I 70 = I 70 := rfl
theorem po26_71 (C : zCr) (I : zI) : putC 26 C I 71 = I 71 := rfl
theorem po26_72 (C : zCr) (I : zI) : putC 26 C I 72 = I 72 := rfl
theorem po26_73 (C : zCr) (I : zI) : putC 26 C I 73 = I 73 := rfl
theorem po26_74 (C : zCr) (I : zI) : putC 26 C I 74 = I 74 := rfl
theorem po26_75 (C : zCr) (I : zI) : putC 26 C I 75 = I 75 := rfl
theorem po26_76 (C : zCr) (I : zI) : putC 26 C I 76 = I 76 := rfl
theorem po26_18 (C : zCr) (I : zI) : putC 26 C I 18 = I 18 := rfl
theorem po26_19 (C : zCr) (I : zI) : putC 26 C I 19 = I 19 := rfl
theorem po26_20 (C : zCr) (I : zI) : putC 26 C I 20 = I 20 := rfl
theorem po26_21 (C : zCr) (I : zI) : putC 26 C I 21 = I 21 := rfl
theorem po26_22 (C : zCr) (I : zI) : putC 26 C I 22 = I 22 := rfl
theorem po26_23 (C : zCr) (I : zI) : putC 26 C I 23 = I 23 := rfl
theorem po26_24 (C : zCr) (I : zI) : putC 26 C I 24 = I 24 := rfl
theorem po26_25 (C : zCr) (I : zI) : putC 26 C I 25 = I 25 := rfl
theorem pof26_0 (C : zCs) (F : zI) : putf 26 C F 0 = F 0 := rfl
theorem pof26_2 (C : zCs) (F : zI) : putf 26 C F 2 = F 2 := rfl
theorem pof26_4 (C : zCs) (F : zI) : putf 26 C F 4 = F 4 := rfl
theorem pof26_6 (C : zCs) (F : zI) : putf 26 C F 6 = F 6 := rfl
theorem pof26_8 (C : zCs) (F : zI) : putf 26 C F 8 = F 8 := rfl
theorem pof26_36 (C : zCs) (F : zI) : putf 26 C F 36 = F 36 := rfl
theorem pof26_42 (C : zCs) (F : zI) : putf 26 C F 42 = F 42 := rfl
theorem pof26_44 (C : zCs) (F : zI) : putf 26 C F 44 = F 44 := rfl
theorem pof26_46 (C : zCs) (F : zI) : putf 26 C F 46 = F 46 := rfl
theorem pof26_48 (C : zCs) (F : zI) : putf 26 C F 48 = F 48 := rfl
theorem pof26_50 (C : zCs) (F : zI) : putf 26 C F 50 = F 50 := rfl
theorem pof26_17 (C : zCs) (F : zI) : putf 26 C F 17 = F 17 := rfl
