/-! windows of the reference: its rows now (61 to 67), behind days (68 to 74), stock and waste -/
abbrev zMr : Type := zr × zr × zr × zr × zr × zr × zr
def putM (M : zMr) (I : zI) : zI := fun j => if j = 61 then M.1 else if j = 62 then M.2.1 else if j = 63 then M.2.2.1 else if j = 64 then M.2.2.2.1 else if j = 65 then M.2.2.2.2.1 else if j = 66 then M.2.2.2.2.2.1 else if j = 67 then M.2.2.2.2.2.2 else I j
def getM (I : zI) : zMr := (I 61, I 62, I 63, I 64, I 65, I 66, I 67)
theorem putM_get (I : zI) : putM (getM I) I = I := by
  funext j
  unfold putM getM
  grind
theorem putM_put (M N : zMr) (I : zI) : putM M (putM N I) = putM M I := by
  funext j
  unfold putM
  grind
theorem getM_put (M : zMr) (I : zI) : getM (putM M I) = M := rfl
def putB (M : zMr) (I : zI) : zI := fun j => if j = 68 then M.1 else if j = 69 then M.2.1 else if j = 70 then M.2.2.1 else if j = 71 then M.2.2.2.1 else if j = 72 then M.2.2.2.2.1 else if j = 73 then M.2.2.2.2.2.1 else if j = 74 then M.2.2.2.2.2.2 else I j
def getB (I : zI) : zMr := (I 68, I 69, I 70, I 71, I 72, I 73, I 74)
theorem putB_get (I : zI) : putB (getB I) I = I := by
  funext j
  unfold putB getB
  grind
theorem putB_put (M N : zMr) (I : zI) : putB M (putB N I) = putB M I := by
  funext j
  unfold putB
  grind
theorem getB_put (M : zMr) (I : zI) : getB (putB M I) = M := rfl
theorem getB_M (M : zMr) (I : zI) : getB (putM M I) = getB I := rfl
theorem putB_M (M B : zMr) (I : zI) : putB B (putM M I) = putM M (putB B I) := by
  funext j
  unfold putB putM
  grind (splits := 30)
def putm (S : Int32 × Int32) (F : zI) : zI := fun j => if j = 50 then (fun i => if i = 24 then S.1 else if i = 25 then S.2 else F j i) else F j
def getm (F : zI) : Int32 × Int32 := (F 50 24, F 50 25)
theorem putm_get (F : zI) : putm (getm F) F = F := by
  funext j i
  unfold putm getm
  by_cases h : j = 50
  · subst h
    simp only [if_true]
    grind
  · simp only [h, if_false]
theorem putm_put (S D : Int32 × Int32) (F : zI) : putm S (putm D F) = putm S F := by
  funext j i
  unfold putm
  grind
theorem getm_put (S : Int32 × Int32) (F : zI) : getm (putm S F) = S := rfl
theorem mr_0 (st h b o g s t : zr) (I : zI) : putM (st, h, b, o, g, s, t) I 61 = st := rfl
theorem mw_0 (st h b o g s t : zr) (I : zI) (i : Nat) (x : Int32) : zu2 (putM (st, h, b, o, g, s, t) I) 61 i x = putM (upd st i x, h, b, o, g, s, t) I := by
  funext q
  unfold putM zu2 va_up
  simp only
  by_cases hq : q = 61
  · subst hq; rfl
  · simp [hq]
theorem mr_1 (st h b o g s t : zr) (I : zI) : putM (st, h, b, o, g, s, t) I 62 = h := rfl
theorem mw_1 (st h b o g s t : zr) (I : zI) (i : Nat) (x : Int32) : zu2 (putM (st, h, b, o, g, s, t) I) 62 i x = putM (st, upd h i x, b, o, g, s, t) I := by
  funext q
  unfold putM zu2 va_up
  simp only
  by_cases hq : q = 62
  · subst hq; rfl
  · simp [hq]
theorem mr_2 (st h b o g s t : zr) (I : zI) : putM (st, h, b, o, g, s, t) I 63 = b := rfl
theorem mw_2 (st h b o g s t : zr) (I : zI) (i : Nat) (x : Int32) : zu2 (putM (st, h, b, o, g, s, t) I) 63 i x = putM (st, h, upd b i x, o, g, s, t) I := by
  funext q
  unfold putM zu2 va_up
  simp only
  by_cases hq : q = 63
  · subst hq; rfl
  · simp [hq]
theorem mr_3 (st h b o g s t : zr) (I : zI) : putM (st, h, b, o, g, s, t) I 64 = o := rfl
theorem mw_3 (st h b o g s t : zr) (I : zI) (i : Nat) (x : Int32) : zu2 (putM (st, h, b, o, g, s, t) I) 64 i x = putM (st, h, b, upd o i x, g, s, t) I := by
  funext q
  unfold putM zu2 va_up
  simp only
  by_cases hq : q = 64
  · subst hq; rfl
  · simp [hq]
theorem mr_4 (st h b o g s t : zr) (I : zI) : putM (st, h, b, o, g, s, t) I 65 = g := rfl
theorem mw_4 (st h b o g s t : zr) (I : zI) (i : Nat) (x : Int32) : zu2 (putM (st, h, b, o, g, s, t) I) 65 i x = putM (st, h, b, o, upd g i x, s, t) I := by
  funext q
  unfold putM zu2 va_up
  simp only
  by_cases hq : q = 65
  · subst hq; rfl
  · simp [hq]
theorem mr_5 (st h b o g s t : zr) (I : zI) : putM (st, h, b, o, g, s, t) I 66 = s := rfl
theorem mw_5 (st h b o g s t : zr) (I : zI) (i : Nat) (x : Int32) : zu2 (putM (st, h, b, o, g, s, t) I) 66 i x = putM (st, h, b, o, g, upd s i x, t) I := by
  funext q
  unfold putM zu2 va_up
  simp only
  by_cases hq : q = 66
  · subst hq; rfl
  · simp [hq]
theorem mr_6 (st h b o g s t : zr) (I : zI) : putM (st, h, b, o, g, s, t) I 67 = t := rfl
theorem mw_6 (st h b o g s t : zr) (I : zI) (i : Nat) (x : Int32) : zu2 (putM (st, h, b, o, g, s, t) I) 67 i x = putM (st, h, b, o, g, s, upd t i x) I := by
  funext q
  unfold putM zu2 va_up
  simp only
  by_cases hq : q = 67
  · subst hq; rfl
  · simp [hq]
theorem br_0 (st h b o g s t : zr) (I : zI) : putB (st, h, b, o, g, s, t) I 68 = st := rfl
theorem bw_0 (st h b o g s t : zr) (I : zI) (i : Nat) (x : Int32) : zu2 (putB (st, h, b, o, g, s, t) I) 68 i x = putB (upd st i x, h, b, o, g, s, t) I := by
  funext q
  unfold putB zu2 va_up
  simp only
  by_cases hq : q = 68
  · subst hq; rfl
  · simp [hq]
theorem br_1 (st h b o g s t : zr) (I : zI) : putB (st, h, b, o, g, s, t) I 69 = h := rfl
theorem bw_1 (st h b o g s t : zr) (I : zI) (i : Nat) (x : Int32) : zu2 (putB (st, h, b, o, g, s, t) I) 69 i x = putB (st, upd h i x, b, o, g, s, t) I := by
  funext q
  unfold putB zu2 va_up
  simp only
  by_cases hq : q = 69
  · subst hq; rfl
  · simp [hq]
theorem br_2 (st h b o g s t : zr) (I : zI) : putB (st, h, b, o, g, s, t) I 70 = b := rfl
theorem bw_2 (st h b o g s t : zr) (I : zI) (i : Nat) (x : Int32) : zu2 (putB (st, h, b, o, g, s, t) I) 70 i x = putB (st, h, upd b i x, o, g, s, t) I := by
  funext q
  unfold putB zu2 va_up
  simp only
  by_cases hq : q = 70
  · subst hq; rfl
  · simp [hq]
theorem br_3 (st h b o g s t : zr) (I : zI) : putB (st, h, b, o, g, s, t) I 71 = o := rfl
theorem bw_3 (st h b o g s t : zr) (I : zI) (i : Nat) (x : Int32) : zu2 (putB (st, h, b, o, g, s, t) I) 71 i x = putB (st, h, b, upd o i x, g, s, t) I := by
  funext q
  unfold putB zu2 va_up
  simp only
  by_cases hq : q = 71
  · subst hq; rfl
  · simp [hq]
theorem br_4 (st h b o g s t : zr) (I : zI) : putB (st, h, b, o, g, s, t) I 72 = g := rfl
theorem bw_4 (st h b o g s t : zr) (I : zI) (i : Nat) (x : Int32) : zu2 (putB (st, h, b, o, g, s, t) I) 72 i x = putB (st, h, b, o, upd g i x, s, t) I := by
  funext q
  unfold putB zu2 va_up
  simp only
  by_cases hq : q = 72
  · subst hq; rfl
  · simp [hq]
theorem br_5 (st h b o g s t : zr) (I : zI) : putB (st, h, b, o, g, s, t) I 73 = s := rfl
theorem bw_5 (st h b o g s t : zr) (I : zI) (i : Nat) (x : Int32) : zu2 (putB (st, h, b, o, g, s, t) I) 73 i x = putB (st, h, b, o, g, upd s i x, t) I := by
  funext q
  unfold putB zu2 va_up
  simp only
  by_cases hq : q = 73
  · subst hq; rfl
  · simp [hq]
theorem br_6 (st h b o g s t : zr) (I : zI) : putB (st, h, b, o, g, s, t) I 74 = t := rfl
theorem bw_6 (st h b o g s t : zr) (I : zI) (i : Nat) (x : Int32) : zu2 (putB (st, h, b, o, g, s, t) I) 74 i x = putB (st, h, b, o, g, s, upd t i x) I := by
  funext q
  unfold putB zu2 va_up
  simp only
  by_cases hq : q = 74
  · subst hq; rfl
  · simp [hq]
theorem mo_68 (M : zMr) (I : zI) : putM M I 68 = I 68 := rfl
theorem mW_68 (M : zMr) (I : zI) (i : Nat) (x : Int32) : zu2 (putM M I) 68 i x = putM M (zu2 I 68 i x) := by
  funext q
  unfold putM zu2 va_up
  by_cases hq : q = 68
  · subst hq; rfl
  · simp [hq]
theorem mo_69 (M : zMr) (I : zI) : putM M I 69 = I 69 := rfl
theorem mW_69 (M : zMr) (I : zI) (i : Nat) (x : Int32) : zu2 (putM M I) 69 i x = putM M (zu2 I 69 i x) := by
  funext q
  unfold putM zu2 va_up
  by_cases hq : q = 69
  · subst hq; rfl
  · simp [hq]
theorem mo_70 (M : zMr) (I : zI) : putM M I 70 = I 70 := rfl
theorem mW_70 (M : zMr) (I : zI) (i : Nat) (x : Int32) : zu2 (putM M I) 70 i x = putM M (zu2 I 70 i x) := by
  funext q
  unfold putM zu2 va_up
  by_cases hq : q = 70
  · subst hq; rfl
  · simp [hq]
theorem mo_71 (M : zMr) (I : zI) : putM M I 71 = I 71 := rfl
theorem mW_71 (M : zMr) (I : zI) (i : Nat) (x : Int32) : zu2 (putM M I) 71 i x = putM M (zu2 I 71 i x) := by
  funext q
  unfold putM zu2 va_up
  by_cases hq : q = 71
  · subst hq; rfl
  · simp [hq]
theorem mo_72 (M : zMr) (I : zI) : putM M I 72 = I 72 := rfl
theorem mW_72 (M : zMr) (I : zI) (i : Nat) (x : Int32) : zu2 (putM M I) 72 i x = putM M (zu2 I 72 i x) := by
  funext q
  unfold putM zu2 va_up
  by_cases hq : q = 72
  · subst hq; rfl
  · simp [hq]
theorem mo_73 (M : zMr) (I : zI) : putM M I 73 = I 73 := rfl
theorem mW_73 (M : zMr) (I : zI) (i : Nat) (x : Int32) : zu2 (putM M I) 73 i x = putM M (zu2 I 73 i x) := by
  funext q
  unfold putM zu2 va_up
  by_cases hq : q = 73
  · subst hq; rfl
  · simp [hq]
theorem mo_74 (M : zMr) (I : zI) : putM M I 74 = I 74 := rfl
theorem mW_74 (M : zMr) (I : zI) (i : Nat) (x : Int32) : zu2 (putM M I) 74 i x = putM M (zu2 I 74 i x) := by
  funext q
  unfold putM zu2 va_up
  by_cases hq : q = 74
  · subst hq; rfl
  · simp [hq]
theorem mo_3 (M : zMr) (I : zI) : putM M I 3 = I 3 := rfl
theorem mo_5 (M : zMr) (I : zI) : putM M I 5 = I 5 := rfl
theorem mo_7 (M : zMr) (I : zI) : putM M I 7 = I 7 := rfl
theorem mo_9 (M : zMr) (I : zI) : putM M I 9 = I 9 := rfl
theorem mo_10 (M : zMr) (I : zI) : putM M I 10 = I 10 := rfl
theorem mo_11 (M : zMr) (I : zI) : putM M I 11 = I 11 := rfl
theorem mo_12 (M : zMr) (I : zI) : putM M I 12 = I 12 := rfl
theorem mo_13 (M : zMr) (I : zI) : putM M I 13 = I 13 := rfl
theorem mo_14 (M : zMr) (I : zI) : putM M I 14 = I 14 := rfl
theorem mo_15 (M : zMr) (I : zI) : putM M I 15 = I 15 := rfl
theorem mo_16 (M : zMr) (I : zI) : putM M I 16 = I 16 := rfl
theorem mo_51 (M : zMr) (I : zI) : putM M I 51 = I 51 := rfl
theorem mo_52 (M : zMr) (I : zI) : putM M I 52 = I 52 := rfl
theorem mo_53 (M : zMr) (I : zI) : putM M I 53 = I 53 := rfl
theorem mo_54 (M : zMr) (I : zI) : putM M I 54 = I 54 := rfl
theorem mo_55 (M : zMr) (I : zI) : putM M I 55 = I 55 := rfl
theorem mo_56 (M : zMr) (I : zI) : putM M I 56 = I 56 := rfl
theorem mo_57 (M : zMr) (I : zI) : putM M I 57 = I 57 := rfl
theorem mo_58 (M : zMr) (I : zI) : putM M I 58 = I 58 := rfl
theorem mo_59 (M : zMr) (I : zI) : putM M I 59 = I 59 := rfl
theorem mo_60 (M : zMr) (I : zI) : putM M I 60 = I 60 := rfl
theorem mo_75 (M : zMr) (I : zI) : putM M I 75 = I 75 := rfl
theorem mo_76 (M : zMr) (I : zI) : putM M I 76 = I 76 := rfl
theorem bo_3 (M : zMr) (I : zI) : putB M I 3 = I 3 := rfl
theorem bo_5 (M : zMr) (I : zI) : putB M I 5 = I 5 := rfl
theorem bo_7 (M : zMr) (I : zI) : putB M I 7 = I 7 := rfl
theorem bo_9 (M : zMr) (I : zI) : putB M I 9 = I 9 := rfl
theorem bo_10 (M : zMr) (I : zI) : putB M I 10 = I 10 := rfl
theorem bo_11 (M : zMr) (I : zI) : putB M I 11 = I 11 := rfl
theorem bo_12 (M : zMr) (I : zI) : putB M I 12 = I 12 := rfl
theorem bo_13 (M : zMr) (I : zI) : putB M I 13 = I 13 := rfl
theorem bo_14 (M : zMr) (I : zI) : putB M I 14 = I 14 := rfl
theorem bo_15 (M : zMr) (I : zI) : putB M I 15 = I 15 := rfl
theorem bo_16 (M : zMr) (I : zI) : putB M I 16 = I 16 := rfl
theorem bo_51 (M : zMr) (I : zI) : putB M I 51 = I 51 := rfl
theorem bo_52 (M : zMr) (I : zI) : putB M I 52 = I 52 := rfl
theorem bo_53 (M : zMr) (I : zI) : putB M I 53 = I 53 := rfl
theorem bo_54 (M : zMr) (I : zI) : putB M I 54 = I 54 := rfl
theorem bo_55 (M : zMr) (I : zI) : putB M I 55 = I 55 := rfl
theorem bo_56 (M : zMr) (I : zI) : putB M I 56 = I 56 := rfl
theorem bo_57 (M : zMr) (I : zI) : putB M I 57 = I 57 := rfl
theorem bo_58 (M : zMr) (I : zI) : putB M I 58 = I 58 := rfl
theorem bo_59 (M : zMr) (I : zI) : putB M I 59 = I 59 := rfl
theorem bo_60 (M : zMr) (I : zI) : putB M I 60 = I 60 := rfl
theorem bo_75 (M : zMr) (I : zI) : putB M I 75 = I 75 := rfl
theorem bo_76 (M : zMr) (I : zI) : putB M I 76 = I 76 := rfl
theorem mf_0 (u v : Int32) (F : zI) : putm (u, v) F 50 24 = u := rfl
theorem mg_0 (u v : Int32) (F : zI) (x : Int32) : zu2 (putm (u, v) F) 50 24 x = putm (x, v) F := by
  funext q p
  unfold putm zu2 va_up upd
  simp only
  by_cases hq : q = 50
  · subst hq
    by_cases hp : p = 24
    · subst hp; rfl
    · simp [hp]
  · simp [hq]
theorem mf_1 (u v : Int32) (F : zI) : putm (u, v) F 50 25 = v := rfl
theorem mg_1 (u v : Int32) (F : zI) (x : Int32) : zu2 (putm (u, v) F) 50 25 x = putm (u, x) F := by
  funext q p
  unfold putm zu2 va_up upd
  simp only
  by_cases hq : q = 50
  · subst hq
    by_cases hp : p = 25
    · subst hp; rfl
    · simp [hp]
  · simp [hq]
theorem mi_4 (S : Int32 × Int32) (F : zI) : putm S F 50 4 = F 50 4 := rfl
theorem mi_7 (S : Int32 × Int32) (F : zI) : putm S F 50 7 = F 50 7 := rfl
theorem mi_9 (S : Int32 × Int32) (F : zI) : putm S F 50 9 = F 50 9 := rfl
theorem mi_11 (S : Int32 × Int32) (F : zI) : putm S F 50 11 = F 50 11 := rfl
theorem mi_13 (S : Int32 × Int32) (F : zI) : putm S F 50 13 = F 50 13 := rfl
theorem mi_15 (S : Int32 × Int32) (F : zI) : putm S F 50 15 = F 50 15 := rfl
theorem mi_16 (S : Int32 × Int32) (F : zI) : putm S F 50 16 = F 50 16 := rfl
theorem mi_33 (S : Int32 × Int32) (F : zI) : putm S F 50 33 = F 50 33 := rfl
theorem mi_36 (S : Int32 × Int32) (F : zI) : putm S F 50 36 = F 50 36 := rfl
theorem mj_0 (S : Int32 × Int32) (F : zI) : putm S F 0 = F 0 := rfl
theorem mj_2 (S : Int32 × Int32) (F : zI) : putm S F 2 = F 2 := rfl
theorem mj_4 (S : Int32 × Int32) (F : zI) : putm S F 4 = F 4 := rfl
theorem mj_6 (S : Int32 × Int32) (F : zI) : putm S F 6 = F 6 := rfl
theorem mj_8 (S : Int32 × Int32) (F : zI) : putm S F 8 = F 8 := rfl
theorem mj_17 (S : Int32 × Int32) (F : zI) : putm S F 17 = F 17 := rfl
theorem mj_26 (S : Int32 × Int32) (F : zI) : putm S F 26 = F 26 := rfl
theorem mj_36 (S : Int32 × Int32) (F : zI) : putm S F 36 = F 36 := rfl
theorem mj_42 (S : Int32 × Int32) (F : zI) : putm S F 42 = F 42 := rfl
theorem mj_44 (S : Int32 × Int32) (F : zI) : putm S F 44 = F 44 := rfl
theorem mj_46 (S : Int32 × Int32) (F : zI) : putm S F 46 = F 46 := rfl
theorem mj_48 (S : Int32 × Int32) (F : zI) : putm S F 48 = F 48 := rfl
