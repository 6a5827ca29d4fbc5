/-! ===== rows for running by simp ===== -/
section ZX
variable {E : zE} {c : Nat} {ini : Bool} {rt : Option FieldType} {S : zSs} {RC RS mc ms : Nat} {Post : zPo} {k : zK} {pc : Nat} {L : List (Option Value)} {st : List Value} {sh : Nat → zShp} {n : Nat} {I F : zI} {cs zs : Nat}
def zldI (o : Option Value) (k : zK) (pc : Nat) (L : List (Option Value)) (st : List Value) (sh : Nat → zShp) (n : Nat) (I F : zI) (cs zs : Nat) : Prop := match o with
  | some (.int x) => k pc L (.int x :: st) sh n I F cs zs
  | _ => False
def zldL (o : Option Value) (k : zK) (pc : Nat) (L : List (Option Value)) (st : List Value) (sh : Nat → zShp) (n : Nat) (I F : zI) (cs zs : Nat) : Prop := match o with
  | some (.long x) => k pc L (.long x :: st) sh n I F cs zs
  | _ => False
def zldA (o : Option Value) (k : zK) (pc : Nat) (L : List (Option Value)) (st : List Value) (sh : Nat → zShp) (n : Nat) (I F : zI) (cs zs : Nat) : Prop := match o with
  | some (.ref x) => k pc L (.ref x :: st) sh n I F cs zs
  | _ => False
def zkcI (o : Option Int32) (k : zK) (pc : Nat) (L : List (Option Value)) (st : List Value) (sh : Nat → zShp) (n : Nat) (I F : zI) (cs zs : Nat) : Prop := match o with
  | some v => k pc L (.int v :: st) sh n I F cs zs
  | none => False
def zkcL (o : Option Int64) (k : zK) (pc : Nat) (L : List (Option Value)) (st : List Value) (sh : Nat → zShp) (n : Nat) (I F : zI) (cs zs : Nat) : Prop := match o with
  | some v => k pc L (.long v :: st) sh n I F cs zs
  | none => False
def zinc (o : Option Value) (i : Nat) (d : Int) (k : zK) (pc : Nat) (L : List (Option Value)) (st : List Value) (sh : Nat → zShp) (n : Nat) (I F : zI) (cs zs : Nat) : Prop := match o with
  | some (.int x) => k pc (zset L i (.int (x + Int32.ofInt d))) st sh n I F cs zs
  | _ => False
def zgf2 (o : Option (Option (Option Nat))) (x : Int32) (k : zK) (pc : Nat) (L : List (Option Value)) (st : List Value) (sh : Nat → zShp) (n : Nat) (I F : zI) (cs zs : Nat) : Prop := match o with
  | some fk => k pc L (zfa x fk :: st) sh n I F cs zs
  | none => False
def zgf1 (q : Option (Nat × Nat × Bool × Bool × Nat)) (r : Nat) (k : zK) (pc : Nat) (L : List (Option Value)) (st : List Value) (sh : Nat → zShp) (n : Nat) (I F : zI) (cs zs : Nat) : Prop := match q with
  | some (ci, j, _) => zgf2 (zfk sh n r ci j) (F r j) k pc L st sh n I F cs zs
  | none => False
def zpf2 (o : Option (Option (Option Nat))) (ini nest fin : Bool) (c ci j ty r : Nat) (x : Int32) (k : zK) (pc : Nat) (L : List (Option Value)) (st : List Value) (sh : Nat → zShp) (n : Nat) (I F : zI) (cs zs : Nat) : Prop := match o with
  | some none => zpok ini nest fin c ci ty ∧ (ty = 0 ∨ (ty = 1 ∧ (x = 0 ∨ x = 1))) ∧ k pc L st sh n I (zu2 F r j x) cs zs
  | _ => False
def zpf1 (q : Option (Nat × Nat × Bool × Bool × Nat)) (ini : Bool) (c r : Nat) (x : Int32) (k : zK) (pc : Nat) (L : List (Option Value)) (st : List Value) (sh : Nat → zShp) (n : Nat) (I F : zI) (cs zs : Nat) : Prop := match q with
  | some (ci, j, nest, fin, ty) => zpf2 (zfk sh n r ci j) ini nest fin c ci j ty r x k pc L st sh n I F cs zs
  | none => False
def zpr2 (o : Option (Option (Option Nat))) (ini nest fin : Bool) (c ci j ty r q : Nat) (k : zK) (pc : Nat) (L : List (Option Value)) (st : List Value) (sh : Nat → zShp) (n : Nat) (I F : zI) (cs zs : Nat) : Prop := match o with
  | some (some _) => zpok ini nest fin c ci ty ∧ ty = 2 ∧ k pc L st (zsr sh r j q) n I F cs zs
  | _ => False
def zpr1 (o : Option (Nat × Nat × Bool × Bool × Nat)) (ini : Bool) (c r q : Nat) (k : zK) (pc : Nat) (L : List (Option Value)) (st : List Value) (sh : Nat → zShp) (n : Nat) (I F : zI) (cs zs : Nat) : Prop := match o with
  | some (ci, j, nest, fin, ty) => zpr2 (zfk sh n r ci j) ini nest fin c ci j ty r q k pc L st sh n I F cs zs
  | none => False
def zia1 (o : Option (Nat × (Nat → Int32))) (i : Int32) (k : zK) (pc : Nat) (L : List (Option Value)) (st : List Value) (sh : Nat → zShp) (n : Nat) (I F : zI) (cs zs : Nat) : Prop := match o with
  | some (len, f) => vp_in i len ∧ k pc L (.int (f i.toNatClampNeg) :: st) sh n I F cs zs
  | none => False
def zis1 (o : Option Nat) (x i : Int32) (r : Nat) (k : zK) (pc : Nat) (L : List (Option Value)) (st : List Value) (sh : Nat → zShp) (n : Nat) (I F : zI) (cs zs : Nat) : Prop := match o with
  | some len => vp_in i len ∧ k pc L st sh n (zu2 I r i.toNatClampNeg x) F cs zs
  | none => False
def zaa1 (o : Option (Nat × List (Option Nat))) (i : Int32) (k : zK) (pc : Nat) (L : List (Option Value)) (st : List Value) (sh : Nat → zShp) (n : Nat) (I F : zI) (cs zs : Nat) : Prop := match o with
  | some (t, rs) => t < 2 ∧ vp_in i rs.length ∧ k pc L (zrv (rs.getD i.toNatClampNeg none) :: st) sh n I F cs zs
  | none => False
def zln1 (o : Option (Nat × (Nat → Int32))) (k : zK) (pc : Nat) (L : List (Option Value)) (st : List Value) (sh : Nat → zShp) (n : Nat) (I F : zI) (cs zs : Nat) : Prop := match o with
  | some (len, _) => k pc L (.int (Int32.ofNat len) :: st) sh n I F cs zs
  | none => False
def zca1 (o : Option (Nat × Nat × zSp)) (na RC RS : Nat) (k : zK) (pc : Nat) (L : List (Option Value)) (st : List Value) (sh : Nat → zShp) (n : Nat) (I F : zI) (cs zs : Nat) : Prop := match o with
  | none => False
  | some (mc, ms, sp) => match ztk na [] st with
    | none => False
    | some (as, rest) => zcal2 (sp as sh n I F) n mc ms RC RS k pc L rest cs zs
def zcv1 (o : Option (Nat × Nat × Nat)) (S : zSs) (RC RS : Nat) (k : zK) (pc : Nat) (L : List (Option Value)) (st : List Value) (sh : Nat → zShp) (n : Nat) (I F : zI) (cs zs : Nat) : Prop := match o with
  | some (id, na, 1) => zrc id na st sh n ∧ zca1 (zlk S id) na RC RS k pc L st sh n I F cs zs
  | _ => False
def zcy1 (oa ob : Option Nat) (len dp sp : Int32) (a b : Nat) (k : zK) (pc : Nat) (L : List (Option Value)) (st : List Value) (sh : Nat → zShp) (n : Nat) (I F : zI) (cs zs : Nat) : Prop := match oa, ob with
  | some na, some nb => ¬ sp < 0 ∧ ¬ dp < 0 ∧ ¬ len < 0 ∧ sp.toNatClampNeg + len.toNatClampNeg ≤ na ∧ dp.toNatClampNeg + len.toNatClampNeg ≤ nb ∧ k (pc + 3) L st sh n (va_up I b (va_cpy (I a) (I b) sp.toNatClampNeg dp.toNatClampNeg len.toNatClampNeg)) F cs zs
  | _, _ => False
def zcs1 (o : Option (Nat × Nat × Nat)) (S : zSs) (RC RS : Nat) (k : zK) (pc : Nat) (L : List (Option Value)) (st : List Value) (sh : Nat → zShp) (n : Nat) (I F : zI) (cs zs : Nat) : Prop := match o with
  | some (id, na, 0) => zca1 (zlk S id) na RC RS k pc L st sh n I F cs zs
  | some (id, na, 5) => zca1 (zlk S id) na RC RS k pc L st sh n I F cs zs
  | some (_, _, 6) => match st with
    | .int y :: .int x :: st => zct st ≤ 8 ∧ cs ≤ RC ∧ zs ≤ RS ∧ k (pc + 3) L (.int (zmx x y) :: st) sh n I F cs zs
    | _ => False
  | some (_, _, 7) => match st with
    | .int y :: .int x :: st => zct st ≤ 8 ∧ cs ≤ RC ∧ zs ≤ RS ∧ k (pc + 3) L (.int (zmn x y) :: st) sh n I F cs zs
    | _ => False
  | some (_, _, 4) => match st with
    | .int len :: .int dp :: .ref b :: .int sp :: .ref a :: st => zct st ≤ 8 ∧ zcy1 (zas sh n a) (zas sh n b) len dp sp a b k pc L st sh n I F cs zs
    | _ => False
  | _ => False
def zci1 (o : Option (Nat × Nat × Nat)) (S : zSs) (RC RS : Nat) (k : zK) (pc : Nat) (L : List (Option Value)) (st : List Value) (sh : Nat → zShp) (n : Nat) (I F : zI) (cs zs : Nat) : Prop := match o with
  | some (_, _, 3) => match st with
    | .ref _ :: st => zct st ≤ 8 ∧ k (pc + 3) L st sh n I F cs zs
    | _ => False
  | some (id, na, 2) => zrc id na st sh n ∧ zca1 (zlk S id) na RC RS k pc L st sh n I F cs zs
  | _ => False
theorem zx_iconst {x : Int} : zstep E c ini rt S RC RS mc ms Post (.ok (.iconst x, 1)) k pc L (st) sh n I F cs zs = k (pc + 1) L (.int (Int32.ofInt x) :: st) sh n I F cs zs := propext ⟨And.right, fun h => ⟨rfl, h⟩⟩
theorem zx_bipush {x : Int} : zstep E c ini rt S RC RS mc ms Post (.ok (.bipush x, 2)) k pc L (st) sh n I F cs zs = k (pc + 2) L (.int (Int8.ofInt x).toInt32 :: st) sh n I F cs zs := propext ⟨And.right, fun h => ⟨rfl, h⟩⟩
theorem zx_sipush {x : Int} : zstep E c ini rt S RC RS mc ms Post (.ok (.sipush x, 3)) k pc L (st) sh n I F cs zs = k (pc + 3) L (.int (Int16.ofInt x).toInt32 :: st) sh n I F cs zs := propext ⟨And.right, fun h => ⟨rfl, h⟩⟩
theorem zx_lconst0  : zstep E c ini rt S RC RS mc ms Post (.ok (.lconst 0, 1)) k pc L (st) sh n I F cs zs = k (pc + 1) L (.long 0 :: st) sh n I F cs zs := propext ⟨And.right, fun h => ⟨rfl, h⟩⟩
theorem zx_lconst1  : zstep E c ini rt S RC RS mc ms Post (.ok (.lconst 1, 1)) k pc L (st) sh n I F cs zs = k (pc + 1) L (.long 1 :: st) sh n I F cs zs := propext ⟨And.right, fun h => ⟨rfl, h⟩⟩
theorem zx_ldc {ix : Nat} : zstep E c ini rt S RC RS mc ms Post (.ok (.ldc ix, 2)) k pc L (st) sh n I F cs zs = zkcI (zki c ix) k (pc + 2) L st sh n I F cs zs := propext ⟨And.right, fun h => ⟨rfl, h⟩⟩
theorem zx_ldcw {ix : Nat} : zstep E c ini rt S RC RS mc ms Post (.ok (.ldc_w ix, 3)) k pc L (st) sh n I F cs zs = zkcI (zki c ix) k (pc + 3) L st sh n I F cs zs := propext ⟨And.right, fun h => ⟨rfl, h⟩⟩
theorem zx_ldc2 {ix : Nat} : zstep E c ini rt S RC RS mc ms Post (.ok (.ldc2_w ix, 3)) k pc L (st) sh n I F cs zs = zkcL (zkL c ix) k (pc + 3) L st sh n I F cs zs := propext ⟨And.right, fun h => ⟨rfl, h⟩⟩
theorem zx_iload {i : Nat} : zstep E c ini rt S RC RS mc ms Post (.ok (.iload i, 2)) k pc L (st) sh n I F cs zs = zldI (zget L i) k (pc + 2) L st sh n I F cs zs := propext ⟨And.right, fun h => ⟨rfl, h⟩⟩
theorem zx_istore {i : Nat} {x : Int32} : zstep E c ini rt S RC RS mc ms Post (.ok (.istore i, 2)) k pc L (.int x :: st) sh n I F cs zs = (i < L.length ∧ k (pc + 2) (zset L i (.int x)) st sh n I F cs zs) := propext ⟨And.right, fun h => ⟨rfl, h⟩⟩
theorem zx_iload0  : zstep E c ini rt S RC RS mc ms Post (.ok (.iload_n 0, 1)) k pc L (st) sh n I F cs zs = zldI (zget L 0) k (pc + 1) L st sh n I F cs zs := propext ⟨And.right, fun h => ⟨rfl, h⟩⟩
theorem zx_istore0 {x : Int32} : zstep E c ini rt S RC RS mc ms Post (.ok (.istore_n 0, 1)) k pc L (.int x :: st) sh n I F cs zs = (0 < L.length ∧ k (pc + 1) (zset L 0 (.int x)) st sh n I F cs zs) := propext ⟨And.right, fun h => ⟨rfl, h⟩⟩
theorem zx_iload1  : zstep E c ini rt S RC RS mc ms Post (.ok (.iload_n 1, 1)) k pc L (st) sh n I F cs zs = zldI (zget L 1) k (pc + 1) L st sh n I F cs zs := propext ⟨And.right, fun h => ⟨rfl, h⟩⟩
theorem zx_istore1 {x : Int32} : zstep E c ini rt S RC RS mc ms Post (.ok (.istore_n 1, 1)) k pc L (.int x :: st) sh n I F cs zs = (1 < L.length ∧ k (pc + 1) (zset L 1 (.int x)) st sh n I F cs zs) := propext ⟨And.right, fun h => ⟨rfl, h⟩⟩
theorem zx_iload2  : zstep E c ini rt S RC RS mc ms Post (.ok (.iload_n 2, 1)) k pc L (st) sh n I F cs zs = zldI (zget L 2) k (pc + 1) L st sh n I F cs zs := propext ⟨And.right, fun h => ⟨rfl, h⟩⟩
theorem zx_istore2 {x : Int32} : zstep E c ini rt S RC RS mc ms Post (.ok (.istore_n 2, 1)) k pc L (.int x :: st) sh n I F cs zs = (2 < L.length ∧ k (pc + 1) (zset L 2 (.int x)) st sh n I F cs zs) := propext ⟨And.right, fun h => ⟨rfl, h⟩⟩
theorem zx_iload3  : zstep E c ini rt S RC RS mc ms Post (.ok (.iload_n 3, 1)) k pc L (st) sh n I F cs zs = zldI (zget L 3) k (pc + 1) L st sh n I F cs zs := propext ⟨And.right, fun h => ⟨rfl, h⟩⟩
theorem zx_istore3 {x : Int32} : zstep E c ini rt S RC RS mc ms Post (.ok (.istore_n 3, 1)) k pc L (.int x :: st) sh n I F cs zs = (3 < L.length ∧ k (pc + 1) (zset L 3 (.int x)) st sh n I F cs zs) := propext ⟨And.right, fun h => ⟨rfl, h⟩⟩
theorem zx_lload {i : Nat} : zstep E c ini rt S RC RS mc ms Post (.ok (.lload i, 2)) k pc L (st) sh n I F cs zs = zldL (zget L i) k (pc + 2) L st sh n I F cs zs := propext ⟨And.right, fun h => ⟨rfl, h⟩⟩
theorem zx_lstore {i : Nat} {x : Int64} : zstep E c ini rt S RC RS mc ms Post (.ok (.lstore i, 2)) k pc L (.long x :: st) sh n I F cs zs = (i + 1 < L.length ∧ k (pc + 2) (zsetL L i (.long x)) st sh n I F cs zs) := propext ⟨And.right, fun h => ⟨rfl, h⟩⟩
theorem zx_lload0  : zstep E c ini rt S RC RS mc ms Post (.ok (.lload_n 0, 1)) k pc L (st) sh n I F cs zs = zldL (zget L 0) k (pc + 1) L st sh n I F cs zs := propext ⟨And.right, fun h => ⟨rfl, h⟩⟩
theorem zx_lstore0 {x : Int64} : zstep E c ini rt S RC RS mc ms Post (.ok (.lstore_n 0, 1)) k pc L (.long x :: st) sh n I F cs zs = (1 < L.length ∧ k (pc + 1) (zsetL L 0 (.long x)) st sh n I F cs zs) := propext ⟨And.right, fun h => ⟨rfl, h⟩⟩
theorem zx_lload1  : zstep E c ini rt S RC RS mc ms Post (.ok (.lload_n 1, 1)) k pc L (st) sh n I F cs zs = zldL (zget L 1) k (pc + 1) L st sh n I F cs zs := propext ⟨And.right, fun h => ⟨rfl, h⟩⟩
theorem zx_lstore1 {x : Int64} : zstep E c ini rt S RC RS mc ms Post (.ok (.lstore_n 1, 1)) k pc L (.long x :: st) sh n I F cs zs = (2 < L.length ∧ k (pc + 1) (zsetL L 1 (.long x)) st sh n I F cs zs) := propext ⟨And.right, fun h => ⟨rfl, h⟩⟩
theorem zx_lload2  : zstep E c ini rt S RC RS mc ms Post (.ok (.lload_n 2, 1)) k pc L (st) sh n I F cs zs = zldL (zget L 2) k (pc + 1) L st sh n I F cs zs := propext ⟨And.right, fun h => ⟨rfl, h⟩⟩
theorem zx_lstore2 {x : Int64} : zstep E c ini rt S RC RS mc ms Post (.ok (.lstore_n 2, 1)) k pc L (.long x :: st) sh n I F cs zs = (3 < L.length ∧ k (pc + 1) (zsetL L 2 (.long x)) st sh n I F cs zs) := propext ⟨And.right, fun h => ⟨rfl, h⟩⟩
theorem zx_lload3  : zstep E c ini rt S RC RS mc ms Post (.ok (.lload_n 3, 1)) k pc L (st) sh n I F cs zs = zldL (zget L 3) k (pc + 1) L st sh n I F cs zs := propext ⟨And.right, fun h => ⟨rfl, h⟩⟩
theorem zx_lstore3 {x : Int64} : zstep E c ini rt S RC RS mc ms Post (.ok (.lstore_n 3, 1)) k pc L (.long x :: st) sh n I F cs zs = (4 < L.length ∧ k (pc + 1) (zsetL L 3 (.long x)) st sh n I F cs zs) := propext ⟨And.right, fun h => ⟨rfl, h⟩⟩
theorem zx_aload {i : Nat} : zstep E c ini rt S RC RS mc ms Post (.ok (.aload i, 2)) k pc L (st) sh n I F cs zs = zldA (zget L i) k (pc + 2) L st sh n I F cs zs := propext ⟨And.right, fun h => ⟨rfl, h⟩⟩
theorem zx_astore {i : Nat} {x : Nat} : zstep E c ini rt S RC RS mc ms Post (.ok (.astore i, 2)) k pc L (.ref x :: st) sh n I F cs zs = (i < L.length ∧ k (pc + 2) (zset L i (.ref x)) st sh n I F cs zs) := propext ⟨And.right, fun h => ⟨rfl, h⟩⟩
theorem zx_aload0  : zstep E c ini rt S RC RS mc ms Post (.ok (.aload_n 0, 1)) k pc L (st) sh n I F cs zs = zldA (zget L 0) k (pc + 1) L st sh n I F cs zs := propext ⟨And.right, fun h => ⟨rfl, h⟩⟩
theorem zx_astore0 {x : Nat} : zstep E c ini rt S RC RS mc ms Post (.ok (.astore_n 0, 1)) k pc L (.ref x :: st) sh n I F cs zs = (0 < L.length ∧ k (pc + 1) (zset L 0 (.ref x)) st sh n I F cs zs) := propext ⟨And.right, fun h => ⟨rfl, h⟩⟩
theorem zx_aload1  : zstep E c ini rt S RC RS mc ms Post (.ok (.aload_n 1, 1)) k pc L (st) sh n I F cs zs = zldA (zget L 1) k (pc + 1) L st sh n I F cs zs := propext ⟨And.right, fun h => ⟨rfl, h⟩⟩
theorem zx_astore1 {x : Nat} : zstep E c ini rt S RC RS mc ms Post (.ok (.astore_n 1, 1)) k pc L (.ref x :: st) sh n I F cs zs = (1 < L.length ∧ k (pc + 1) (zset L 1 (.ref x)) st sh n I F cs zs) := propext ⟨And.right, fun h => ⟨rfl, h⟩⟩
theorem zx_aload2  : zstep E c ini rt S RC RS mc ms Post (.ok (.aload_n 2, 1)) k pc L (st) sh n I F cs zs = zldA (zget L 2) k (pc + 1) L st sh n I F cs zs := propext ⟨And.right, fun h => ⟨rfl, h⟩⟩
theorem zx_astore2 {x : Nat} : zstep E c ini rt S RC RS mc ms Post (.ok (.astore_n 2, 1)) k pc L (.ref x :: st) sh n I F cs zs = (2 < L.length ∧ k (pc + 1) (zset L 2 (.ref x)) st sh n I F cs zs) := propext ⟨And.right, fun h => ⟨rfl, h⟩⟩
theorem zx_aload3  : zstep E c ini rt S RC RS mc ms Post (.ok (.aload_n 3, 1)) k pc L (st) sh n I F cs zs = zldA (zget L 3) k (pc + 1) L st sh n I F cs zs := propext ⟨And.right, fun h => ⟨rfl, h⟩⟩
theorem zx_astore3 {x : Nat} : zstep E c ini rt S RC RS mc ms Post (.ok (.astore_n 3, 1)) k pc L (.ref x :: st) sh n I F cs zs = (3 < L.length ∧ k (pc + 1) (zset L 3 (.ref x)) st sh n I F cs zs) := propext ⟨And.right, fun h => ⟨rfl, h⟩⟩
theorem zx_iinc {i : Nat} {d : Int} : zstep E c ini rt S RC RS mc ms Post (.ok (.iinc i d, 3)) k pc L (st) sh n I F cs zs = zinc (zget L i) i d k (pc + 3) L st sh n I F cs zs := propext ⟨And.right, fun h => ⟨rfl, h⟩⟩
theorem zx_iadd {x y : Int32} : zstep E c ini rt S RC RS mc ms Post (.ok (.iadd, 1)) k pc L (.int y :: .int x :: st) sh n I F cs zs = k (pc + 1) L (.int (x + y) :: st) sh n I F cs zs := propext ⟨And.right, fun h => ⟨rfl, h⟩⟩
theorem zx_isub {x y : Int32} : zstep E c ini rt S RC RS mc ms Post (.ok (.isub, 1)) k pc L (.int y :: .int x :: st) sh n I F cs zs = k (pc + 1) L (.int (x - y) :: st) sh n I F cs zs := propext ⟨And.right, fun h => ⟨rfl, h⟩⟩
theorem zx_imul {x y : Int32} : zstep E c ini rt S RC RS mc ms Post (.ok (.imul, 1)) k pc L (.int y :: .int x :: st) sh n I F cs zs = k (pc + 1) L (.int (x * y) :: st) sh n I F cs zs := propext ⟨And.right, fun h => ⟨rfl, h⟩⟩
theorem zx_iand {x y : Int32} : zstep E c ini rt S RC RS mc ms Post (.ok (.iand, 1)) k pc L (.int y :: .int x :: st) sh n I F cs zs = k (pc + 1) L (.int (x &&& y) :: st) sh n I F cs zs := propext ⟨And.right, fun h => ⟨rfl, h⟩⟩
theorem zx_ior {x y : Int32} : zstep E c ini rt S RC RS mc ms Post (.ok (.ior, 1)) k pc L (.int y :: .int x :: st) sh n I F cs zs = k (pc + 1) L (.int (x ||| y) :: st) sh n I F cs zs := propext ⟨And.right, fun h => ⟨rfl, h⟩⟩
theorem zx_ixor {x y : Int32} : zstep E c ini rt S RC RS mc ms Post (.ok (.ixor, 1)) k pc L (.int y :: .int x :: st) sh n I F cs zs = k (pc + 1) L (.int (x ^^^ y) :: st) sh n I F cs zs := propext ⟨And.right, fun h => ⟨rfl, h⟩⟩
theorem zx_ishl {x y : Int32} : zstep E c ini rt S RC RS mc ms Post (.ok (.ishl, 1)) k pc L (.int y :: .int x :: st) sh n I F cs zs = k (pc + 1) L (.int (x <<< (y &&& 31)) :: st) sh n I F cs zs := propext ⟨And.right, fun h => ⟨rfl, h⟩⟩
theorem zx_ishr {x y : Int32} : zstep E c ini rt S RC RS mc ms Post (.ok (.ishr, 1)) k pc L (.int y :: .int x :: st) sh n I F cs zs = k (pc + 1) L (.int (x >>> (y &&& 31)) :: st) sh n I F cs zs := propext ⟨And.right, fun h => ⟨rfl, h⟩⟩
theorem zx_iushr {x y : Int32} : zstep E c ini rt S RC RS mc ms Post (.ok (.iushr, 1)) k pc L (.int y :: .int x :: st) sh n I F cs zs = k (pc + 1) L (.int ((x.toUInt32 >>> (y.toUInt32 &&& Int32.toUInt32 31)).toInt32) :: st) sh n I F cs zs := propext ⟨And.right, fun h => ⟨rfl, h⟩⟩
theorem zx_ladd {x y : Int64} : zstep E c ini rt S RC RS mc ms Post (.ok (.ladd, 1)) k pc L (.long y :: .long x :: st) sh n I F cs zs = k (pc + 1) L (.long (x + y) :: st) sh n I F cs zs := propext ⟨And.right, fun h => ⟨rfl, h⟩⟩
theorem zx_lsub {x y : Int64} : zstep E c ini rt S RC RS mc ms Post (.ok (.lsub, 1)) k pc L (.long y :: .long x :: st) sh n I F cs zs = k (pc + 1) L (.long (x - y) :: st) sh n I F cs zs := propext ⟨And.right, fun h => ⟨rfl, h⟩⟩
theorem zx_lmul {x y : Int64} : zstep E c ini rt S RC RS mc ms Post (.ok (.lmul, 1)) k pc L (.long y :: .long x :: st) sh n I F cs zs = k (pc + 1) L (.long (x * y) :: st) sh n I F cs zs := propext ⟨And.right, fun h => ⟨rfl, h⟩⟩
theorem zx_land {x y : Int64} : zstep E c ini rt S RC RS mc ms Post (.ok (.land, 1)) k pc L (.long y :: .long x :: st) sh n I F cs zs = k (pc + 1) L (.long (x &&& y) :: st) sh n I F cs zs := propext ⟨And.right, fun h => ⟨rfl, h⟩⟩
theorem zx_idiv {x y : Int32} : zstep E c ini rt S RC RS mc ms Post (.ok (.idiv, 1)) k pc L (.int y :: .int x :: st) sh n I F cs zs = (¬ y = 0 ∧ k (pc + 1) L (.int (x / y) :: st) sh n I F cs zs) := propext ⟨And.right, fun h => ⟨rfl, h⟩⟩
theorem zx_irem {x y : Int32} : zstep E c ini rt S RC RS mc ms Post (.ok (.irem, 1)) k pc L (.int y :: .int x :: st) sh n I F cs zs = (¬ y = 0 ∧ k (pc + 1) L (.int (x - x / y * y) :: st) sh n I F cs zs) := propext ⟨And.right, fun h => ⟨rfl, h⟩⟩
theorem zx_ldiv {x y : Int64} : zstep E c ini rt S RC RS mc ms Post (.ok (.ldiv, 1)) k pc L (.long y :: .long x :: st) sh n I F cs zs = (¬ y = 0 ∧ k (pc + 1) L (.long (x / y) :: st) sh n I F cs zs) := propext ⟨And.right, fun h => ⟨rfl, h⟩⟩
theorem zx_lrem {x y : Int64} : zstep E c ini rt S RC RS mc ms Post (.ok (.lrem, 1)) k pc L (.long y :: .long x :: st) sh n I F cs zs = (¬ y = 0 ∧ k (pc + 1) L (.long (x - x / y * y) :: st) sh n I F cs zs) := propext ⟨And.right, fun h => ⟨rfl, h⟩⟩
theorem zx_lshl {x : Int64} {y : Int32} : zstep E c ini rt S RC RS mc ms Post (.ok (.lshl, 1)) k pc L (.int y :: .long x :: st) sh n I F cs zs = k (pc + 1) L (.long (x <<< (y.toInt64 &&& 63)) :: st) sh n I F cs zs := propext ⟨And.right, fun h => ⟨rfl, h⟩⟩
theorem zx_lshr {x : Int64} {y : Int32} : zstep E c ini rt S RC RS mc ms Post (.ok (.lshr, 1)) k pc L (.int y :: .long x :: st) sh n I F cs zs = k (pc + 1) L (.long (x >>> (y.toInt64 &&& 63)) :: st) sh n I F cs zs := propext ⟨And.right, fun h => ⟨rfl, h⟩⟩
theorem zx_lcmp {x y : Int64} : zstep E c ini rt S RC RS mc ms Post (.ok (.lcmp, 1)) k pc L (.long y :: .long x :: st) sh n I F cs zs = k (pc + 1) L (.int (lg_cmp x y) :: st) sh n I F cs zs := propext ⟨And.right, fun h => ⟨rfl, h⟩⟩
theorem zx_i2l {x : Int32} : zstep E c ini rt S RC RS mc ms Post (.ok (.i2l, 1)) k pc L (.int x :: st) sh n I F cs zs = k (pc + 1) L (.long (x.toInt64) :: st) sh n I F cs zs := propext ⟨And.right, fun h => ⟨rfl, h⟩⟩
theorem zx_i2b {x : Int32} : zstep E c ini rt S RC RS mc ms Post (.ok (.i2b, 1)) k pc L (.int x :: st) sh n I F cs zs = k (pc + 1) L (.int (x.toInt8.toInt32) :: st) sh n I F cs zs := propext ⟨And.right, fun h => ⟨rfl, h⟩⟩
theorem zx_i2s {x : Int32} : zstep E c ini rt S RC RS mc ms Post (.ok (.i2s, 1)) k pc L (.int x :: st) sh n I F cs zs = k (pc + 1) L (.int (x.toInt16.toInt32) :: st) sh n I F cs zs := propext ⟨And.right, fun h => ⟨rfl, h⟩⟩
theorem zx_pop_int {x : Int32} : zstep E c ini rt S RC RS mc ms Post (.ok (.pop, 1)) k pc L (.int x :: st) sh n I F cs zs = k (pc + 1) L st sh n I F cs zs := propext ⟨fun h => h.2.2, fun h => ⟨rfl, rfl, h⟩⟩
theorem zx_dup_int {x : Int32} : zstep E c ini rt S RC RS mc ms Post (.ok (.dup, 1)) k pc L (.int x :: st) sh n I F cs zs = k (pc + 1) L (.int x :: .int x :: st) sh n I F cs zs := propext ⟨fun h => h.2.2, fun h => ⟨rfl, rfl, h⟩⟩
theorem zx_pop_ref {x : Nat} : zstep E c ini rt S RC RS mc ms Post (.ok (.pop, 1)) k pc L (.ref x :: st) sh n I F cs zs = k (pc + 1) L st sh n I F cs zs := propext ⟨fun h => h.2.2, fun h => ⟨rfl, rfl, h⟩⟩
theorem zx_dup_ref {x : Nat} : zstep E c ini rt S RC RS mc ms Post (.ok (.dup, 1)) k pc L (.ref x :: st) sh n I F cs zs = k (pc + 1) L (.ref x :: .ref x :: st) sh n I F cs zs := propext ⟨fun h => h.2.2, fun h => ⟨rfl, rfl, h⟩⟩
theorem zx_dup2 {i : Int32} {r : Nat} : zstep E c ini rt S RC RS mc ms Post (.ok (.dup2, 1)) k pc L (.int i :: .ref r :: st) sh n I F cs zs = k (pc + 1) L (.int i :: .ref r :: .int i :: .ref r :: st) sh n I F cs zs := propext ⟨fun h => h.2.2.2, fun h => ⟨rfl, rfl, rfl, h⟩⟩
theorem zx_goto {off : Int} : zstep E c ini rt S RC RS mc ms Post (.ok (.goto off, 3)) k pc L (st) sh n I F cs zs = (zjk pc off ∧ k (zjm pc off) L st sh n I F cs zs) := propext ⟨And.right, fun h => ⟨rfl, h⟩⟩
theorem zx_if_eq {off : Int} {x : Int32} : zstep E c ini rt S RC RS mc ms Post (.ok (.ifCond .eq off, 3)) k pc L (.int x :: st) sh n I F cs zs = (zjk pc off ∧ (if x = 0 then k (zjm pc off) L st sh n I F cs zs else k (pc + 3) L st sh n I F cs zs)) := propext ⟨And.right, fun h => ⟨rfl, h⟩⟩
theorem zx_if_ne {off : Int} {x : Int32} : zstep E c ini rt S RC RS mc ms Post (.ok (.ifCond .ne off, 3)) k pc L (.int x :: st) sh n I F cs zs = (zjk pc off ∧ (if ¬ x = 0 then k (zjm pc off) L st sh n I F cs zs else k (pc + 3) L st sh n I F cs zs)) := propext ⟨And.right, fun h => ⟨rfl, h⟩⟩
theorem zx_if_lt {off : Int} {x : Int32} : zstep E c ini rt S RC RS mc ms Post (.ok (.ifCond .lt off, 3)) k pc L (.int x :: st) sh n I F cs zs = (zjk pc off ∧ (if x < 0 then k (zjm pc off) L st sh n I F cs zs else k (pc + 3) L st sh n I F cs zs)) := propext ⟨And.right, fun h => ⟨rfl, h⟩⟩
theorem zx_if_ge {off : Int} {x : Int32} : zstep E c ini rt S RC RS mc ms Post (.ok (.ifCond .ge off, 3)) k pc L (.int x :: st) sh n I F cs zs = (zjk pc off ∧ (if 0 ≤ x then k (zjm pc off) L st sh n I F cs zs else k (pc + 3) L st sh n I F cs zs)) := propext ⟨And.right, fun h => ⟨rfl, h⟩⟩
theorem zx_if_gt {off : Int} {x : Int32} : zstep E c ini rt S RC RS mc ms Post (.ok (.ifCond .gt off, 3)) k pc L (.int x :: st) sh n I F cs zs = (zjk pc off ∧ (if 0 < x then k (zjm pc off) L st sh n I F cs zs else k (pc + 3) L st sh n I F cs zs)) := propext ⟨And.right, fun h => ⟨rfl, h⟩⟩
theorem zx_if_le {off : Int} {x : Int32} : zstep E c ini rt S RC RS mc ms Post (.ok (.ifCond .le off, 3)) k pc L (.int x :: st) sh n I F cs zs = (zjk pc off ∧ (if x ≤ 0 then k (zjm pc off) L st sh n I F cs zs else k (pc + 3) L st sh n I F cs zs)) := propext ⟨And.right, fun h => ⟨rfl, h⟩⟩
theorem zx_icmp_eq {off : Int} {x y : Int32} : zstep E c ini rt S RC RS mc ms Post (.ok (.if_icmp .eq off, 3)) k pc L (.int y :: .int x :: st) sh n I F cs zs = (zjk pc off ∧ (if x = y then k (zjm pc off) L st sh n I F cs zs else k (pc + 3) L st sh n I F cs zs)) := propext ⟨And.right, fun h => ⟨rfl, h⟩⟩
theorem zx_icmp_ne {off : Int} {x y : Int32} : zstep E c ini rt S RC RS mc ms Post (.ok (.if_icmp .ne off, 3)) k pc L (.int y :: .int x :: st) sh n I F cs zs = (zjk pc off ∧ (if ¬ x = y then k (zjm pc off) L st sh n I F cs zs else k (pc + 3) L st sh n I F cs zs)) := propext ⟨And.right, fun h => ⟨rfl, h⟩⟩
theorem zx_icmp_lt {off : Int} {x y : Int32} : zstep E c ini rt S RC RS mc ms Post (.ok (.if_icmp .lt off, 3)) k pc L (.int y :: .int x :: st) sh n I F cs zs = (zjk pc off ∧ (if x < y then k (zjm pc off) L st sh n I F cs zs else k (pc + 3) L st sh n I F cs zs)) := propext ⟨And.right, fun h => ⟨rfl, h⟩⟩
theorem zx_icmp_ge {off : Int} {x y : Int32} : zstep E c ini rt S RC RS mc ms Post (.ok (.if_icmp .ge off, 3)) k pc L (.int y :: .int x :: st) sh n I F cs zs = (zjk pc off ∧ (if y ≤ x then k (zjm pc off) L st sh n I F cs zs else k (pc + 3) L st sh n I F cs zs)) := propext ⟨And.right, fun h => ⟨rfl, h⟩⟩
theorem zx_icmp_gt {off : Int} {x y : Int32} : zstep E c ini rt S RC RS mc ms Post (.ok (.if_icmp .gt off, 3)) k pc L (.int y :: .int x :: st) sh n I F cs zs = (zjk pc off ∧ (if y < x then k (zjm pc off) L st sh n I F cs zs else k (pc + 3) L st sh n I F cs zs)) := propext ⟨And.right, fun h => ⟨rfl, h⟩⟩
theorem zx_icmp_le {off : Int} {x y : Int32} : zstep E c ini rt S RC RS mc ms Post (.ok (.if_icmp .le off, 3)) k pc L (.int y :: .int x :: st) sh n I F cs zs = (zjk pc off ∧ (if x ≤ y then k (zjm pc off) L st sh n I F cs zs else k (pc + 3) L st sh n I F cs zs)) := propext ⟨And.right, fun h => ⟨rfl, h⟩⟩
theorem zx_ireturn {v : Int32} : zstep E c ini rt S RC RS mc ms Post (.ok (.ireturn, 1)) k pc L ([.int v]) sh n I F cs zs = ((rt = some .int ∨ (rt = some .boolean ∧ (v = 0 ∨ v = 1))) ∧ cs ≤ mc ∧ zs ≤ ms ∧ Post (some (.int v)) sh n I F) := propext ⟨And.right, fun h => ⟨rfl, h⟩⟩
theorem zx_lreturn {v : Int64} : zstep E c ini rt S RC RS mc ms Post (.ok (.lreturn, 1)) k pc L ([.long v]) sh n I F cs zs = (rt = some .long ∧ cs ≤ mc ∧ zs ≤ ms ∧ Post (some (.long v)) sh n I F) := propext ⟨And.right, fun h => ⟨rfl, h⟩⟩
theorem zx_return  : zstep E c ini rt S RC RS mc ms Post (.ok (.return_, 1)) k pc L ([]) sh n I F cs zs = (rt = none ∧ cs ≤ mc ∧ zs ≤ ms ∧ Post none sh n I F) := propext ⟨And.right, fun h => ⟨rfl, h⟩⟩
theorem zx_getstatic {ix : Nat} : zstep E c ini rt S RC RS mc ms Post (.ok (.getstatic ix, 3)) k pc L (st) sh n I F cs zs = (c = 5 ∧ ix = 338 ∧ k (pc + 3) L (.ref 1000 :: st) sh n I F cs zs) := propext ⟨And.right, fun h => ⟨rfl, h⟩⟩
theorem zx_getfield {ix r : Nat} : zstep E c ini rt S RC RS mc ms Post (.ok (.getfield ix, 3)) k pc L (.ref r :: st) sh n I F cs zs = zgf1 (zfl c ix) r k (pc + 3) L st sh n I F cs zs := propext ⟨And.right, fun h => ⟨rfl, h⟩⟩
theorem zx_putfield {ix r : Nat} {x : Int32} : zstep E c ini rt S RC RS mc ms Post (.ok (.putfield ix, 3)) k pc L (.int x :: .ref r :: st) sh n I F cs zs = zpf1 (zfl c ix) ini c r x k (pc + 3) L st sh n I F cs zs := propext ⟨And.right, fun h => ⟨rfl, h⟩⟩
theorem zx_putfieldR {ix r q : Nat} : zstep E c ini rt S RC RS mc ms Post (.ok (.putfield ix, 3)) k pc L (.ref q :: .ref r :: st) sh n I F cs zs = zpr1 (zfl c ix) ini c r q k (pc + 3) L st sh n I F cs zs := propext ⟨And.right, fun h => ⟨rfl, h⟩⟩
theorem zx_iaload {i : Int32} {r : Nat} : zstep E c ini rt S RC RS mc ms Post (.ok (.iaload, 1)) k pc L (.int i :: .ref r :: st) sh n I F cs zs = zia1 (zal E sh n I r) i k (pc + 1) L st sh n I F cs zs := propext ⟨And.right, fun h => ⟨rfl, h⟩⟩
theorem zx_iastore {x i : Int32} {r : Nat} : zstep E c ini rt S RC RS mc ms Post (.ok (.iastore, 1)) k pc L (.int x :: .int i :: .ref r :: st) sh n I F cs zs = zis1 (zas sh n r) x i r k (pc + 1) L st sh n I F cs zs := propext ⟨And.right, fun h => ⟨rfl, h⟩⟩
theorem zx_aaload {i : Int32} {r : Nat} : zstep E c ini rt S RC RS mc ms Post (.ok (.aaload, 1)) k pc L (.int i :: .ref r :: st) sh n I F cs zs = zaa1 (zrs sh n r) i k (pc + 1) L st sh n I F cs zs := propext ⟨And.right, fun h => ⟨rfl, h⟩⟩
theorem zx_arraylength {r : Nat} : zstep E c ini rt S RC RS mc ms Post (.ok (.arraylength, 1)) k pc L (.ref r :: st) sh n I F cs zs = zln1 (zal E sh n I r) k (pc + 1) L st sh n I F cs zs := propext ⟨And.right, fun h => ⟨rfl, h⟩⟩
theorem zx_invokevirtual {ix : Nat} : zstep E c ini rt S RC RS mc ms Post (.ok (.invokevirtual ix, 3)) k pc L (st) sh n I F cs zs = zcv1 (zml c ix) S RC RS k pc L st sh n I F cs zs := propext ⟨And.right, fun h => ⟨rfl, h⟩⟩
theorem zx_invokestatic {ix : Nat} : zstep E c ini rt S RC RS mc ms Post (.ok (.invokestatic ix, 3)) k pc L (st) sh n I F cs zs = zcs1 (zml c ix) S RC RS k pc L st sh n I F cs zs := propext ⟨And.right, fun h => ⟨rfl, h⟩⟩
theorem zx_invokespecial {ix : Nat} : zstep E c ini rt S RC RS mc ms Post (.ok (.invokespecial ix, 3)) k pc L (st) sh n I F cs zs = zci1 (zml c ix) S RC RS k pc L st sh n I F cs zs := propext ⟨And.right, fun h => ⟨rfl, h⟩⟩
theorem zx_newarray {x : Int32} : zstep E c ini rt S RC RS mc ms Post (.ok (.newarray .int, 2)) k pc L (.int x :: st) sh n I F cs zs = (¬ x < 0 ∧ x.toNatClampNeg ≤ 1000 ∧ cs + 1 ≤ RC ∧ zs + x.toNatClampNeg ≤ RS ∧ n + 1 ≤ 1000 ∧ k (pc + 2) L (.ref n :: st) (va_up sh n (.inr (.inl x.toNatClampNeg))) (n + 1) (va_up I n (fun _ => 0)) F (cs + 1) (zs + x.toNatClampNeg)) := propext ⟨And.right, fun h => ⟨rfl, h⟩⟩
theorem zy_ldI {x : Int32} : zldI (some (.int x)) k pc L st sh n I F cs zs = k pc L (.int x :: st) sh n I F cs zs := rfl
theorem zy_ldL {x : Int64} : zldL (some (.long x)) k pc L st sh n I F cs zs = k pc L (.long x :: st) sh n I F cs zs := rfl
theorem zy_ldA {x : Nat} : zldA (some (.ref x)) k pc L st sh n I F cs zs = k pc L (.ref x :: st) sh n I F cs zs := rfl
theorem zy_kcI {x : Int32} : zkcI (some x) k pc L st sh n I F cs zs = k pc L (.int x :: st) sh n I F cs zs := rfl
theorem zy_kcL {x : Int64} : zkcL (some x) k pc L st sh n I F cs zs = k pc L (.long x :: st) sh n I F cs zs := rfl
theorem zy_inc {x : Int32} {i : Nat} {d : Int} : zinc (some (.int x)) i d k pc L st sh n I F cs zs = k pc (zset L i (.int (x + Int32.ofInt d))) st sh n I F cs zs := rfl
theorem zy_gf2 {x : Int32} {fk : Option (Option Nat)} : zgf2 (some fk) x k pc L st sh n I F cs zs = k pc L (zfa x fk :: st) sh n I F cs zs := rfl
theorem zy_gf1 {ci j r : Nat} {q : Bool × Bool × Nat} : zgf1 (some (ci, j, q)) r k pc L st sh n I F cs zs = zgf2 (zfk sh n r ci j) (F r j) k pc L st sh n I F cs zs := rfl
theorem zy_pf2 {x : Int32} {nest fin : Bool} {ci j ty r : Nat} : zpf2 (some none) ini nest fin c ci j ty r x k pc L st sh n I F cs zs = (zpok ini nest fin c ci ty ∧ (ty = 0 ∨ (ty = 1 ∧ (x = 0 ∨ x = 1))) ∧ k pc L st sh n I (zu2 F r j x) cs zs) := rfl
theorem zy_pf1 {x : Int32} {nest fin : Bool} {ci j ty r : Nat} : zpf1 (some (ci, j, nest, fin, ty)) ini c r x k pc L st sh n I F cs zs = zpf2 (zfk sh n r ci j) ini nest fin c ci j ty r x k pc L st sh n I F cs zs := rfl
theorem zy_pr2 {z : Option Nat} {nest fin : Bool} {ci j ty r q : Nat} : zpr2 (some (some z)) ini nest fin c ci j ty r q k pc L st sh n I F cs zs = (zpok ini nest fin c ci ty ∧ ty = 2 ∧ k pc L st (zsr sh r j q) n I F cs zs) := rfl
theorem zy_pr1 {nest fin : Bool} {ci j ty r q : Nat} : zpr1 (some (ci, j, nest, fin, ty)) ini c r q k pc L st sh n I F cs zs = zpr2 (zfk sh n r ci j) ini nest fin c ci j ty r q k pc L st sh n I F cs zs := rfl
theorem zy_ia1 {i : Int32} {len : Nat} {f : Nat → Int32} : zia1 (some (len, f)) i k pc L st sh n I F cs zs = (vp_in i len ∧ k pc L (.int (f i.toNatClampNeg) :: st) sh n I F cs zs) := rfl
theorem zy_is1 {x i : Int32} {len r : Nat} : zis1 (some len) x i r k pc L st sh n I F cs zs = (vp_in i len ∧ k pc L st sh n (zu2 I r i.toNatClampNeg x) F cs zs) := rfl
theorem zy_aa1 {i : Int32} {t : Nat} {rs : List (Option Nat)} : zaa1 (some (t, rs)) i k pc L st sh n I F cs zs = (t < 2 ∧ vp_in i rs.length ∧ k pc L (zrv (rs.getD i.toNatClampNeg none) :: st) sh n I F cs zs) := rfl
theorem zy_ln1 {len : Nat} {f : Nat → Int32} : zln1 (some (len, f)) k pc L st sh n I F cs zs = k pc L (.int (Int32.ofNat len) :: st) sh n I F cs zs := rfl
theorem zy_ca1 {na RC RS mc ms : Nat} {sp : zSp} : zca1 (some (mc, ms, sp)) na RC RS k pc L st sh n I F cs zs = (match ztk na [] st with
    | none => False
    | some (as, rest) => zcal2 (sp as sh n I F) n mc ms RC RS k pc L rest cs zs) := rfl
theorem zy_ca0 {mc ms : Nat} {sp : zSp}  : zca1 (some (mc, ms, sp)) 0 RC RS k pc L (st) sh n I F cs zs = zcal2 (sp [] sh n I F) n mc ms RC RS k pc L st cs zs := rfl
theorem zy_ca1x {mc ms : Nat} {sp : zSp} {v0 : Value} : zca1 (some (mc, ms, sp)) 1 RC RS k pc L (v0 :: st) sh n I F cs zs = zcal2 (sp [v0] sh n I F) n mc ms RC RS k pc L st cs zs := rfl
theorem zy_rc1 {id r : Nat}  : zrc id 1 (.ref r :: st) sh n = (zcn sh n r = some (id / 100)) := rfl
theorem zy_ca2 {mc ms : Nat} {sp : zSp} {v0 v1 : Value} : zca1 (some (mc, ms, sp)) 2 RC RS k pc L (v1 :: v0 :: st) sh n I F cs zs = zcal2 (sp [v0, v1] sh n I F) n mc ms RC RS k pc L st cs zs := rfl
theorem zy_rc2 {id r : Nat} {v1 : Value} : zrc id 2 (v1 :: .ref r :: st) sh n = (zcn sh n r = some (id / 100)) := rfl
theorem zy_ca3 {mc ms : Nat} {sp : zSp} {v0 v1 v2 : Value} : zca1 (some (mc, ms, sp)) 3 RC RS k pc L (v2 :: v1 :: v0 :: st) sh n I F cs zs = zcal2 (sp [v0, v1, v2] sh n I F) n mc ms RC RS k pc L st cs zs := rfl
theorem zy_rc3 {id r : Nat} {v1 v2 : Value} : zrc id 3 (v2 :: v1 :: .ref r :: st) sh n = (zcn sh n r = some (id / 100)) := rfl
theorem zy_ca4 {mc ms : Nat} {sp : zSp} {v0 v1 v2 v3 : Value} : zca1 (some (mc, ms, sp)) 4 RC RS k pc L (v3 :: v2 :: v1 :: v0 :: st) sh n I F cs zs = zcal2 (sp [v0, v1, v2, v3] sh n I F) n mc ms RC RS k pc L st cs zs := rfl
theorem zy_rc4 {id r : Nat} {v1 v2 v3 : Value} : zrc id 4 (v3 :: v2 :: v1 :: .ref r :: st) sh n = (zcn sh n r = some (id / 100)) := rfl
theorem zy_ca5 {mc ms : Nat} {sp : zSp} {v0 v1 v2 v3 v4 : Value} : zca1 (some (mc, ms, sp)) 5 RC RS k pc L (v4 :: v3 :: v2 :: v1 :: v0 :: st) sh n I F cs zs = zcal2 (sp [v0, v1, v2, v3, v4] sh n I F) n mc ms RC RS k pc L st cs zs := rfl
theorem zy_rc5 {id r : Nat} {v1 v2 v3 v4 : Value} : zrc id 5 (v4 :: v3 :: v2 :: v1 :: .ref r :: st) sh n = (zcn sh n r = some (id / 100)) := rfl
theorem zy_ca6 {mc ms : Nat} {sp : zSp} {v0 v1 v2 v3 v4 v5 : Value} : zca1 (some (mc, ms, sp)) 6 RC RS k pc L (v5 :: v4 :: v3 :: v2 :: v1 :: v0 :: st) sh n I F cs zs = zcal2 (sp [v0, v1, v2, v3, v4, v5] sh n I F) n mc ms RC RS k pc L st cs zs := rfl
theorem zy_rc6 {id r : Nat} {v1 v2 v3 v4 v5 : Value} : zrc id 6 (v5 :: v4 :: v3 :: v2 :: v1 :: .ref r :: st) sh n = (zcn sh n r = some (id / 100)) := rfl
/-- what a callee leaves -/
theorem zy_cal2 {P : Prop} {v : Option Value} {sh2 : Nat → zShp} {n2 : Nat} {I2 F2 : zI} {mc ms : Nat} : zcal2 (P, v, sh2, n2, I2, F2) n mc ms RC RS k pc L st cs zs = (P ∧ n2 = n + mc ∧ cs + mc ≤ RC ∧ zs + ms ≤ RS ∧ zct st ≤ 8 ∧ k (pc + 3) L (v.toList ++ st) sh2 n2 I2 F2 (cs + mc) (zs + ms)) := rfl
theorem zy_cv1 {id na : Nat} : zcv1 (some (id, na, 1)) S RC RS k pc L st sh n I F cs zs = (zrc id na st sh n ∧ zca1 (zlk S id) na RC RS k pc L st sh n I F cs zs) := rfl
theorem zy_cs0 {id na : Nat} : zcs1 (some (id, na, 0)) S RC RS k pc L st sh n I F cs zs = zca1 (zlk S id) na RC RS k pc L st sh n I F cs zs := rfl
theorem zy_cs5 {id na : Nat} : zcs1 (some (id, na, 5)) S RC RS k pc L st sh n I F cs zs = zca1 (zlk S id) na RC RS k pc L st sh n I F cs zs := rfl
theorem zy_cs6 {id na : Nat} {x y : Int32} : zcs1 (some (id, na, 6)) S RC RS k pc L (.int y :: .int x :: st) sh n I F cs zs = (zct st ≤ 8 ∧ cs ≤ RC ∧ zs ≤ RS ∧ k (pc + 3) L (.int (zmx x y) :: st) sh n I F cs zs) := rfl
theorem zy_cs7 {id na : Nat} {x y : Int32} : zcs1 (some (id, na, 7)) S RC RS k pc L (.int y :: .int x :: st) sh n I F cs zs = (zct st ≤ 8 ∧ cs ≤ RC ∧ zs ≤ RS ∧ k (pc + 3) L (.int (zmn x y) :: st) sh n I F cs zs) := rfl
theorem zy_cs4 {id na a b : Nat} {len dp sp : Int32} : zcs1 (some (id, na, 4)) S RC RS k pc L (.int len :: .int dp :: .ref b :: .int sp :: .ref a :: st) sh n I F cs zs = (zct st ≤ 8 ∧ zcy1 (zas sh n a) (zas sh n b) len dp sp a b k pc L st sh n I F cs zs) := rfl
theorem zy_cy1 {na nb a b : Nat} {len dp sp : Int32} : zcy1 (some na) (some nb) len dp sp a b k pc L st sh n I F cs zs = (¬ sp < 0 ∧ ¬ dp < 0 ∧ ¬ len < 0 ∧ sp.toNatClampNeg + len.toNatClampNeg ≤ na ∧ dp.toNatClampNeg + len.toNatClampNeg ≤ nb ∧ k (pc + 3) L st sh n (va_up I b (va_cpy (I a) (I b) sp.toNatClampNeg dp.toNatClampNeg len.toNatClampNeg)) F cs zs) := rfl
theorem zy_ci3 {id na r : Nat} : zci1 (some (id, na, 3)) S RC RS k pc L (.ref r :: st) sh n I F cs zs = (zct st ≤ 8 ∧ k (pc + 3) L st sh n I F cs zs) := rfl
theorem zy_ci2 {id na : Nat} : zci1 (some (id, na, 2)) S RC RS k pc L st sh n I F cs zs = (zrc id na st sh n ∧ zca1 (zlk S id) na RC RS k pc L st sh n I F cs zs) := rfl
theorem zrun_s {cc : ByteArray} {nL kk f : Nat} {stops : List Nat} : zrun E c cc nL rt ini S RC RS kk mc ms Post stops (f + 1) pc L st sh n I F cs zs = if pc ∈ stops then zG E c cc nL rt ini RC RS kk mc ms Post pc L st sh n I F cs zs else zstep E c ini rt S RC RS mc ms Post (decode cc pc) (zrun E c cc nL rt ini S RC RS kk mc ms Post stops f) pc L st sh n I F cs zs := rfl
end ZX
theorem zl_g0 (v : Option Value) (L : List (Option Value)) : zget (v :: L) 0 = v := rfl
theorem zl_gs (v : Option Value) (L : List (Option Value)) (i : Nat) : zget (v :: L) (i + 1) = zget L i := by first | rfl | (cases i <;> rfl)
theorem zl_s0 (a : Option Value) (L : List (Option Value)) (v : Value) : zset (a :: L) 0 v = some v :: L := rfl
theorem zl_ss (a : Option Value) (L : List (Option Value)) (i : Nat) (v : Value) : zset (a :: L) (i + 1) v = zkl a i :: zset L i v := by first | rfl | (cases i <;> rfl)
theorem zl_l0 (a b : Option Value) (L : List (Option Value)) (v : Value) : zsetL (a :: b :: L) 0 v = some v :: none :: L := rfl
theorem zl_ls (a b : Option Value) (L : List (Option Value)) (i : Nat) (v : Value) : zsetL (a :: b :: L) (i + 1) v = zkl a i :: zsetL (b :: L) i v := by first | rfl | (cases i <;> rfl)
theorem zl_kn (i : Nat) : zkl none i = none := by first | rfl | (cases i <;> rfl)
theorem zl_ki (x : Int32) (i : Nat) : zkl (some (.int x)) i = some (.int x) := by first | rfl | (cases i <;> rfl)
theorem zl_kr (x : Nat) (i : Nat) : zkl (some (.ref x)) i = some (.ref x) := by first | rfl | (cases i <;> rfl)
theorem zl_k0 (x : Int64) : zkl (some (.long x)) 0 = none := rfl
theorem zl_ks (x : Int64) (i : Nat) : zkl (some (.long x)) (i + 1) = some (.long x) := by first | rfl | (cases i <;> rfl)
theorem zl_fn (x : Int32) : zfa x none = .int x := rfl
theorem zl_fr (x : Int32) (r : Nat) : zfa x (some (some r)) = .ref r := rfl
theorem zl_rs (q : Nat) : zrv (some q) = .ref q := rfl
theorem zl_lk (q : Nat × Nat × zSp) (i : Nat) (S : zSs) : zlk ((i, q) :: S) i = some q := if_pos rfl
theorem zl_ct0  : zct [] = 0 := rfl
theorem zl_cti (x : Int32) (st : List Value) : zct (.int x :: st) = 1 + zct st := rfl
theorem zl_ctr (x : Nat) (st : List Value) : zct (.ref x :: st) = 1 + zct st := rfl
theorem zl_ctl (x : Int64) (st : List Value) : zct (.long x :: st) = 2 + zct st := rfl
theorem zl_tl0 (st : List Value) : (none : Option Value).toList ++ st = st := rfl
theorem zl_tl1 (v : Value) (st : List Value) : (some v).toList ++ st = v :: st := rfl
theorem zl_sl0  : zsl [] = [] := rfl
theorem zl_sli (x : Int32) (vs : List Value) : zsl (.int x :: vs) = some (.int x) :: zsl vs := rfl
theorem zl_slr (x : Nat) (vs : List Value) : zsl (.ref x :: vs) = some (.ref x) :: zsl vs := rfl
theorem zl_sll (x : Int64) (vs : List Value) : zsl (.long x :: vs) = some (.long x) :: none :: zsl vs := rfl
theorem zl_p0 (a : Option Value) (L : List (Option Value)) (n : Nat) : zpad (a :: L) (n + 1) = a :: zpad L n := rfl
theorem zl_p1 (n : Nat) : zpad [] (n + 1) = none :: zpad [] n := rfl
theorem zl_p2  : zpad [] 0 = [] := rfl
theorem zl_lkn (q : Nat × Nat × zSp) (i j : Nat) (S : zSs) (h : ¬ i = j) : zlk ((j, q) :: S) i = zlk S i := if_neg h
theorem zif {c A B : Prop} [Decidable c] : (if c then A else B) = ((c → A) ∧ (¬ c → B)) := by by_cases h : c <;> simp [h]
theorem zn_im1 : Int32.ofInt (-1) = (-1) := rfl
theorem zn_i0 : Int32.ofInt 0 = 0 := rfl
theorem zn_i1 : Int32.ofInt 1 = 1 := rfl
theorem zn_i2 : Int32.ofInt 2 = 2 := rfl
theorem zn_i3 : Int32.ofInt 3 = 3 := rfl
theorem zn_i4 : Int32.ofInt 4 = 4 := rfl
theorem zn_i5 : Int32.ofInt 5 = 5 := rfl
theorem zn_i6 : Int32.ofInt 6 = 6 := rfl
theorem zn_bm10 : (Int8.ofInt (-10)).toInt32 = (-10) := by decide
theorem zn_bm9 : (Int8.ofInt (-9)).toInt32 = (-9) := by decide
theorem zn_bm4 : (Int8.ofInt (-4)).toInt32 = (-4) := by decide
theorem zn_bm3 : (Int8.ofInt (-3)).toInt32 = (-3) := by decide
theorem zn_bm2 : (Int8.ofInt (-2)).toInt32 = (-2) := by decide
theorem zn_b6 : (Int8.ofInt 6).toInt32 = 6 := by decide
theorem zn_b7 : (Int8.ofInt 7).toInt32 = 7 := by decide
theorem zn_b8 : (Int8.ofInt 8).toInt32 = 8 := by decide
theorem zn_b9 : (Int8.ofInt 9).toInt32 = 9 := by decide
theorem zn_b10 : (Int8.ofInt 10).toInt32 = 10 := by decide
theorem zn_b12 : (Int8.ofInt 12).toInt32 = 12 := by decide
theorem zn_b16 : (Int8.ofInt 16).toInt32 = 16 := by decide
theorem zn_b17 : (Int8.ofInt 17).toInt32 = 17 := by decide
theorem zn_b18 : (Int8.ofInt 18).toInt32 = 18 := by decide
theorem zn_b20 : (Int8.ofInt 20).toInt32 = 20 := by decide
theorem zn_b23 : (Int8.ofInt 23).toInt32 = 23 := by decide
theorem zn_b24 : (Int8.ofInt 24).toInt32 = 24 := by decide
theorem zn_b25 : (Int8.ofInt 25).toInt32 = 25 := by decide
theorem zn_b31 : (Int8.ofInt 31).toInt32 = 31 := by decide
theorem zn_b32 : (Int8.ofInt 32).toInt32 = 32 := by decide
theorem zn_b48 : (Int8.ofInt 48).toInt32 = 48 := by decide
theorem zn_b49 : (Int8.ofInt 49).toInt32 = 49 := by decide
theorem zn_b55 : (Int8.ofInt 55).toInt32 = 55 := by decide
theorem zn_b57 : (Int8.ofInt 57).toInt32 = 57 := by decide
theorem zn_b59 : (Int8.ofInt 59).toInt32 = 59 := by decide
theorem zn_b60 : (Int8.ofInt 60).toInt32 = 60 := by decide
theorem zn_b63 : (Int8.ofInt 63).toInt32 = 63 := by decide
theorem zn_b64 : (Int8.ofInt 64).toInt32 = 64 := by decide
theorem zn_b96 : (Int8.ofInt 96).toInt32 = 96 := by decide
theorem zn_b97 : (Int8.ofInt 97).toInt32 = 97 := by decide
theorem zn_b99 : (Int8.ofInt 99).toInt32 = 99 := by decide
theorem zn_b104 : (Int8.ofInt 104).toInt32 = 104 := by decide
theorem zn_b109 : (Int8.ofInt 109).toInt32 = 109 := by decide
theorem zn_b120 : (Int8.ofInt 120).toInt32 = 120 := by decide
theorem zn_s192 : (Int16.ofInt 192).toInt32 = 192 := by decide
theorem zn_s240 : (Int16.ofInt 240).toInt32 = 240 := by decide
theorem zn_s256 : (Int16.ofInt 256).toInt32 = 256 := by decide
theorem zn_s999 : (Int16.ofInt 999).toInt32 = 999 := by decide
theorem zn_s12345 : (Int16.ofInt 12345).toInt32 = 12345 := by decide
