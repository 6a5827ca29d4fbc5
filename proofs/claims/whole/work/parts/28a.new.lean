/-! rows for making objects -/
section ZN
variable {E : zE} {c : Nat} {ini : Bool} {rt : Option FieldType} {S : zSs} {RC RS mc ms : Nat} {Post : zPo} {k : zK} {pc : Nat} {L : List (Option Value)} {st : List Value} {sh : Nat → zShp} {n : Nat} {I F : zI} {cs zs : Nat}
def znw (o : Option Nat) (RC RS : Nat) (k : zK) (pc : Nat) (L : List (Option Value)) (st : List Value) (sh : Nat → zShp) (n : Nat) (I F : zI) (cs zs : Nat) : Prop := match o with
  | some ci => ci < 7 ∧ cs + 1 ≤ RC ∧ zs + (zdk ci).length ≤ RS ∧ n + 1 ≤ 1000 ∧ k (pc + 3) L (.ref n :: st) (va_up sh n (.inl (ci, zdk ci))) (n + 1) I (va_up F n (fun _ => 0)) (cs + 1) (zs + (zdk ci).length)
  | none => False
theorem zx_new {ix : Nat} : zstep E c ini rt S RC RS mc ms Post (.ok (.new ix, 3)) k pc L st sh n I F cs zs = znw (zkC c ix) RC RS k pc L st sh n I F cs zs := propext ⟨And.right, fun h => ⟨rfl, h⟩⟩
theorem zy_nw {ci : Nat} : znw (some ci) RC RS k pc L st sh n I F cs zs = (ci < 7 ∧ cs + 1 ≤ RC ∧ zs + (zdk ci).length ≤ RS ∧ n + 1 ≤ 1000 ∧ k (pc + 3) L (.ref n :: st) (va_up sh n (.inl (ci, zdk ci))) (n + 1) I (va_up F n (fun _ => 0)) (cs + 1) (zs + (zdk ci).length)) := rfl
def zan (o : Option Nat) (x : Int32) (k : zK) (pc : Nat) (L : List (Option Value)) (st : List Value) (sh : Nat → zShp) (n : Nat) (I F : zI) (cs zs : Nat) : Prop := match o with
  | some 4 => k (pc + 3) L (.ref n :: st) (va_up sh n (.inr (.inr (0, List.replicate x.toNatClampNeg none)))) (n + 1) I F (cs + 1) (zs + x.toNatClampNeg)
  | some 2 => k (pc + 3) L (.ref n :: st) (va_up sh n (.inr (.inr (1, List.replicate x.toNatClampNeg none)))) (n + 1) I F (cs + 1) (zs + x.toNatClampNeg)
  | _ => False
theorem zx_anewarray {ix : Nat} {x : Int32} : zstep E c ini rt S RC RS mc ms Post (.ok (.anewarray ix, 3)) k pc L (.int x :: st) sh n I F cs zs = (¬ x < 0 ∧ x.toNatClampNeg ≤ 1000 ∧ cs + 1 ≤ RC ∧ zs + x.toNatClampNeg ≤ RS ∧ n + 1 ≤ 1000 ∧ zan (zkC c ix) x k pc L st sh n I F cs zs) := propext ⟨And.right, fun h => ⟨rfl, h⟩⟩
theorem zy_an4 {x : Int32} : zan (some 4) x k pc L st sh n I F cs zs = k (pc + 3) L (.ref n :: st) (va_up sh n (.inr (.inr (0, List.replicate x.toNatClampNeg none)))) (n + 1) I F (cs + 1) (zs + x.toNatClampNeg) := rfl
theorem zy_an2 {x : Int32} : zan (some 2) x k pc L st sh n I F cs zs = k (pc + 3) L (.ref n :: st) (va_up sh n (.inr (.inr (1, List.replicate x.toNatClampNeg none)))) (n + 1) I F (cs + 1) (zs + x.toNatClampNeg) := rfl
def zsk (q : zShp) (t : Nat) : Prop := match q with
  | .inl (ci, _) => (t = 0 ∧ ci = 4) ∨ (t = 1 ∧ ci = 2)
  | _ => False
def zat (o : Option (Nat × List (Option Nat))) (v : Nat) (i : Int32) (r : Nat) (k : zK) (pc : Nat) (L : List (Option Value)) (st : List Value) (sh : Nat → zShp) (n : Nat) (I F : zI) (cs zs : Nat) : Prop := match o with
  | some (t, rs) => vp_in i rs.length ∧ v < n ∧ zsk (sh v) t ∧ k (pc + 1) L st (va_up sh r (.inr (.inr (t, rs.set i.toNatClampNeg (some v))))) n I F cs zs
  | none => False
theorem zx_aastore {v r : Nat} {i : Int32} : zstep E c ini rt S RC RS mc ms Post (.ok (.aastore, 1)) k pc L (.ref v :: .int i :: .ref r :: st) sh n I F cs zs = zat (zrs sh n r) v i r k pc L st sh n I F cs zs := propext ⟨And.right, fun h => ⟨rfl, h⟩⟩
theorem zy_at {t v r : Nat} {rs : List (Option Nat)} {i : Int32} : zat (some (t, rs)) v i r k pc L st sh n I F cs zs = (vp_in i rs.length ∧ v < n ∧ zsk (sh v) t ∧ k (pc + 1) L st (va_up sh r (.inr (.inr (t, rs.set i.toNatClampNeg (some v))))) n I F cs zs) := rfl
end ZN
