/-! one instruction -/
def zins (E : zE) (c : Nat) (ini : Bool) (rt : Option FieldType) (S : zSs) (RC RS mc ms : Nat) (Post : zPo) (i : Instr) (w : Nat) (k : zK) (pc : Nat) (L : List (Option Value)) (st : List Value) (sh : Nat → zShp) (n : Nat) (I F : zI) (cs zs : Nat) : Prop := match i with
  | .iconst x => w = 1 ∧ k (pc + 1) L (.int (Int32.ofInt x) :: st) sh n I F cs zs
  | .bipush x => w = 2 ∧ k (pc + 2) L (.int (Int8.ofInt x).toInt32 :: st) sh n I F cs zs
  | .sipush x => w = 3 ∧ k (pc + 3) L (.int (Int16.ofInt x).toInt32 :: st) sh n I F cs zs
  | .lconst x => w = 1 ∧ k (pc + 1) L (.long (Int64.ofNat x.val) :: st) sh n I F cs zs
  | .ldc ix => w = 2 ∧ match zki c ix with
    | some v => k (pc + 2) L (.int v :: st) sh n I F cs zs
    | none => False
  | .ldc_w ix => w = 3 ∧ match zki c ix with
    | some v => k (pc + 3) L (.int v :: st) sh n I F cs zs
    | none => False
  | .ldc2_w ix => w = 3 ∧ match zkL c ix with
    | some v => k (pc + 3) L (.long v :: st) sh n I F cs zs
    | none => False
  | .iload i => w = 2 ∧ match zget L (i) with
    | some (.int x) => k (pc + 2) L (.int x :: st) sh n I F cs zs
    | _ => False
  | .istore i => match st with
    | .int x :: st => w = 2 ∧ i < L.length ∧ k (pc + 2) (zset L (i) (.int x)) st sh n I F cs zs
    | _ => False
  | .iload_n i => w = 1 ∧ match zget L (i.val) with
    | some (.int x) => k (pc + 1) L (.int x :: st) sh n I F cs zs
    | _ => False
  | .istore_n i => match st with
    | .int x :: st => w = 1 ∧ i.val < L.length ∧ k (pc + 1) (zset L (i.val) (.int x)) st sh n I F cs zs
    | _ => False
  | .lload i => w = 2 ∧ match zget L (i) with
    | some (.long x) => k (pc + 2) L (.long x :: st) sh n I F cs zs
    | _ => False
  | .lstore i => match st with
    | .long x :: st => w = 2 ∧ i + 1 < L.length ∧ k (pc + 2) (zsetL L (i) (.long x)) st sh n I F cs zs
    | _ => False
  | .lload_n i => w = 1 ∧ match zget L (i.val) with
    | some (.long x) => k (pc + 1) L (.long x :: st) sh n I F cs zs
    | _ => False
  | .lstore_n i => match st with
    | .long x :: st => w = 1 ∧ i.val + 1 < L.length ∧ k (pc + 1) (zsetL L (i.val) (.long x)) st sh n I F cs zs
    | _ => False
  | .aload i => w = 2 ∧ match zget L (i) with
    | some (.ref x) => k (pc + 2) L (.ref x :: st) sh n I F cs zs
    | _ => False
  | .astore i => match st with
    | .ref x :: st => w = 2 ∧ i < L.length ∧ k (pc + 2) (zset L (i) (.ref x)) st sh n I F cs zs
    | _ => False
  | .aload_n i => w = 1 ∧ match zget L (i.val) with
    | some (.ref x) => k (pc + 1) L (.ref x :: st) sh n I F cs zs
    | _ => False
  | .astore_n i => match st with
    | .ref x :: st => w = 1 ∧ i.val < L.length ∧ k (pc + 1) (zset L (i.val) (.ref x)) st sh n I F cs zs
    | _ => False
  | .iinc i d => w = 3 ∧ match zget L i with
    | some (.int x) => k (pc + 3) (zset L i (.int (x + Int32.ofInt d))) st sh n I F cs zs
    | _ => False
  | .iadd => match st with
    | .int y :: .int x :: st => w = 1 ∧ k (pc + 1) L (.int (x + y) :: st) sh n I F cs zs
    | _ => False
  | .isub => match st with
    | .int y :: .int x :: st => w = 1 ∧ k (pc + 1) L (.int (x - y) :: st) sh n I F cs zs
    | _ => False
  | .imul => match st with
    | .int y :: .int x :: st => w = 1 ∧ k (pc + 1) L (.int (x * y) :: st) sh n I F cs zs
    | _ => False
  | .iand => match st with
    | .int y :: .int x :: st => w = 1 ∧ k (pc + 1) L (.int (x &&& y) :: st) sh n I F cs zs
    | _ => False
  | .ior => match st with
    | .int y :: .int x :: st => w = 1 ∧ k (pc + 1) L (.int (x ||| y) :: st) sh n I F cs zs
    | _ => False
  | .ixor => match st with
    | .int y :: .int x :: st => w = 1 ∧ k (pc + 1) L (.int (x ^^^ y) :: st) sh n I F cs zs
    | _ => False
  | .ishl => match st with
    | .int y :: .int x :: st => w = 1 ∧ k (pc + 1) L (.int (x <<< (y &&& 31)) :: st) sh n I F cs zs
    | _ => False
  | .ishr => match st with
    | .int y :: .int x :: st => w = 1 ∧ k (pc + 1) L (.int (x >>> (y &&& 31)) :: st) sh n I F cs zs
    | _ => False
  | .iushr => match st with
    | .int y :: .int x :: st => w = 1 ∧ k (pc + 1) L (.int ((x.toUInt32 >>> (y.toUInt32 &&& Int32.toUInt32 31)).toInt32) :: st) sh n I F cs zs
    | _ => False
  | .ladd => match st with
    | .long y :: .long x :: st => w = 1 ∧ k (pc + 1) L (.long (x + y) :: st) sh n I F cs zs
    | _ => False
  | .lsub => match st with
    | .long y :: .long x :: st => w = 1 ∧ k (pc + 1) L (.long (x - y) :: st) sh n I F cs zs
    | _ => False
  | .lmul => match st with
    | .long y :: .long x :: st => w = 1 ∧ k (pc + 1) L (.long (x * y) :: st) sh n I F cs zs
    | _ => False
  | .land => match st with
    | .long y :: .long x :: st => w = 1 ∧ k (pc + 1) L (.long (x &&& y) :: st) sh n I F cs zs
    | _ => False
  | .idiv => match st with
    | .int y :: .int x :: st => w = 1 ∧ ¬ y = 0 ∧ k (pc + 1) L (.int (x / y) :: st) sh n I F cs zs
    | _ => False
  | .irem => match st with
    | .int y :: .int x :: st => w = 1 ∧ ¬ y = 0 ∧ k (pc + 1) L (.int (x - x / y * y) :: st) sh n I F cs zs
    | _ => False
  | .ldiv => match st with
    | .long y :: .long x :: st => w = 1 ∧ ¬ y = 0 ∧ k (pc + 1) L (.long (x / y) :: st) sh n I F cs zs
    | _ => False
  | .lrem => match st with
    | .long y :: .long x :: st => w = 1 ∧ ¬ y = 0 ∧ k (pc + 1) L (.long (x - x / y * y) :: st) sh n I F cs zs
    | _ => False
  | .lshl => match st with
    | .int y :: .long x :: st => w = 1 ∧ k (pc + 1) L (.long (x <<< (y.toInt64 &&& 63)) :: st) sh n I F cs zs
    | _ => False
  | .lshr => match st with
    | .int y :: .long x :: st => w = 1 ∧ k (pc + 1) L (.long (x >>> (y.toInt64 &&& 63)) :: st) sh n I F cs zs
    | _ => False
  | .lcmp => match st with
    | .long y :: .long x :: st => w = 1 ∧ k (pc + 1) L (.int (lg_cmp x y) :: st) sh n I F cs zs
    | _ => False
  | .i2l => match st with
    | .int x :: st => w = 1 ∧ k (pc + 1) L (.long (x.toInt64) :: st) sh n I F cs zs
    | _ => False
  | .i2b => match st with
    | .int x :: st => w = 1 ∧ k (pc + 1) L (.int (x.toInt8.toInt32) :: st) sh n I F cs zs
    | _ => False
  | .i2s => match st with
    | .int x :: st => w = 1 ∧ k (pc + 1) L (.int (x.toInt16.toInt32) :: st) sh n I F cs zs
    | _ => False
  | .pop => match st with
    | v :: st => w = 1 ∧ v.category = 1 ∧ k (pc + 1) L st sh n I F cs zs
    | _ => False
  | .dup => match st with
    | v :: st => w = 1 ∧ v.category = 1 ∧ k (pc + 1) L (v :: v :: st) sh n I F cs zs
    | _ => False
  | .dup2 => match st with
    | v :: u :: st => w = 1 ∧ v.category = 1 ∧ u.category = 1 ∧ k (pc + 1) L (v :: u :: v :: u :: st) sh n I F cs zs
    | _ => False
  | .goto off => w = 3 ∧ zjk pc off ∧ k (zjm pc off) L st sh n I F cs zs
  | .ifCond .eq off => match st with
    | .int x :: st => w = 3 ∧ zjk pc off ∧ (if x = 0 then k (zjm pc off) L st sh n I F cs zs else k (pc + 3) L st sh n I F cs zs)
    | _ => False
  | .ifCond .ne off => match st with
    | .int x :: st => w = 3 ∧ zjk pc off ∧ (if ¬ x = 0 then k (zjm pc off) L st sh n I F cs zs else k (pc + 3) L st sh n I F cs zs)
    | _ => False
  | .ifCond .lt off => match st with
    | .int x :: st => w = 3 ∧ zjk pc off ∧ (if x < 0 then k (zjm pc off) L st sh n I F cs zs else k (pc + 3) L st sh n I F cs zs)
    | _ => False
  | .ifCond .ge off => match st with
    | .int x :: st => w = 3 ∧ zjk pc off ∧ (if 0 ≤ x then k (zjm pc off) L st sh n I F cs zs else k (pc + 3) L st sh n I F cs zs)
    | _ => False
  | .ifCond .gt off => match st with
    | .int x :: st => w = 3 ∧ zjk pc off ∧ (if 0 < x then k (zjm pc off) L st sh n I F cs zs else k (pc + 3) L st sh n I F cs zs)
    | _ => False
  | .ifCond .le off => match st with
    | .int x :: st => w = 3 ∧ zjk pc off ∧ (if x ≤ 0 then k (zjm pc off) L st sh n I F cs zs else k (pc + 3) L st sh n I F cs zs)
    | _ => False
  | .if_icmp .eq off => match st with
    | .int y :: .int x :: st => w = 3 ∧ zjk pc off ∧ (if x = y then k (zjm pc off) L st sh n I F cs zs else k (pc + 3) L st sh n I F cs zs)
    | _ => False
  | .if_icmp .ne off => match st with
    | .int y :: .int x :: st => w = 3 ∧ zjk pc off ∧ (if ¬ x = y then k (zjm pc off) L st sh n I F cs zs else k (pc + 3) L st sh n I F cs zs)
    | _ => False
  | .if_icmp .lt off => match st with
    | .int y :: .int x :: st => w = 3 ∧ zjk pc off ∧ (if x < y then k (zjm pc off) L st sh n I F cs zs else k (pc + 3) L st sh n I F cs zs)
    | _ => False
  | .if_icmp .ge off => match st with
    | .int y :: .int x :: st => w = 3 ∧ zjk pc off ∧ (if y ≤ x then k (zjm pc off) L st sh n I F cs zs else k (pc + 3) L st sh n I F cs zs)
    | _ => False
  | .if_icmp .gt off => match st with
    | .int y :: .int x :: st => w = 3 ∧ zjk pc off ∧ (if y < x then k (zjm pc off) L st sh n I F cs zs else k (pc + 3) L st sh n I F cs zs)
    | _ => False
  | .if_icmp .le off => match st with
    | .int y :: .int x :: st => w = 3 ∧ zjk pc off ∧ (if x ≤ y then k (zjm pc off) L st sh n I F cs zs else k (pc + 3) L st sh n I F cs zs)
    | _ => False
  | .tableswitch d lo hi offs => match st with
    | .int x :: st => zjk pc d ∧ (if x.toInt < lo ∨ hi < x.toInt then k (zjm pc d) L st sh n I F cs zs else match offs[(x.toInt - lo).toNat]? with
      | some off => zjk pc off ∧ k (zjm pc off) L st sh n I F cs zs
      | none => False)
    | _ => False
  | .ireturn => match st with
    | [.int v] => w = 1 ∧ (rt = some .int ∨ (rt = some .boolean ∧ (v = 0 ∨ v = 1))) ∧ cs ≤ mc ∧ zs ≤ ms ∧ Post (some (.int v)) sh n I F
    | _ => False
  | .lreturn => match st with
    | [.long v] => w = 1 ∧ rt = some .long ∧ cs ≤ mc ∧ zs ≤ ms ∧ Post (some (.long v)) sh n I F
    | _ => False
  | .return_ => match st with
    | [] => w = 1 ∧ rt = none ∧ cs ≤ mc ∧ zs ≤ ms ∧ Post none sh n I F
    | _ => False
  | .getstatic ix => w = 3 ∧ c = 5 ∧ ix = 338 ∧ k (pc + 3) L (.ref 1000 :: st) sh n I F cs zs
  | .getfield ix => match st with
    | .ref r :: st => w = 3 ∧ match zfl c ix with
      | some (ci, j, _) => match zfk sh n r ci j with
        | some fk => k (pc + 3) L (zfa (F r j) fk :: st) sh n I F cs zs
        | none => False
      | none => False
    | _ => False
  | .putfield ix => match st with
    | .int x :: .ref r :: st => w = 3 ∧ match zfl c ix with
      | some (ci, j, nest, fin, ty) => match zfk sh n r ci j with
        | some none => zpok ini nest fin c ci ty ∧ (ty = 0 ∨ (ty = 1 ∧ (x = 0 ∨ x = 1))) ∧ k (pc + 3) L st sh n I (zu2 F r j x) cs zs
        | _ => False
      | none => False
    | .ref q :: .ref r :: st => w = 3 ∧ match zfl c ix with
      | some (ci, j, nest, fin, ty) => match zfk sh n r ci j with
        | some (some _) => zpok ini nest fin c ci ty ∧ ty = 2 ∧ k (pc + 3) L st (zsr sh r j q) n I F cs zs
        | _ => False
      | none => False
    | _ => False
  | .iaload => match st with
    | .int i :: .ref r :: st => w = 1 ∧ match zal E sh n I r with
      | some (len, f) => vp_in i len ∧ k (pc + 1) L (.int (f i.toNatClampNeg) :: st) sh n I F cs zs
      | none => False
    | _ => False
  | .iastore => match st with
    | .int x :: .int i :: .ref r :: st => w = 1 ∧ match zas sh n r with
      | some len => vp_in i len ∧ k (pc + 1) L st sh n (zu2 I r i.toNatClampNeg x) F cs zs
      | none => False
    | _ => False
  | .aaload => match st with
    | .int i :: .ref r :: st => w = 1 ∧ match zrs sh n r with
      | some (t, rs) => t < 2 ∧ vp_in i rs.length ∧ k (pc + 1) L (zrv (rs.getD i.toNatClampNeg none) :: st) sh n I F cs zs
      | none => False
    | _ => False
  | .aastore => match st with
    | .ref v :: .int i :: .ref r :: st => w = 1 ∧ match zrs sh n r with
      | some (t, rs) => vp_in i rs.length ∧ v < n ∧ (match sh v with
        | .inl (ci, _) => (t = 0 ∧ ci = 4) ∨ (t = 1 ∧ ci = 2)
        | _ => False) ∧ k (pc + 1) L st (va_up sh r (.inr (.inr (t, rs.set i.toNatClampNeg (some v))))) n I F cs zs
      | none => False
    | _ => False
  | .arraylength => match st with
    | .ref r :: st => w = 1 ∧ match zal E sh n I r with
      | some (len, _) => k (pc + 1) L (.int (Int32.ofNat len) :: st) sh n I F cs zs
      | none => False
    | _ => False
  | .newarray .int => match st with
    | .int x :: st => w = 2 ∧ ¬ x < 0 ∧ x.toNatClampNeg ≤ 1000 ∧ cs + 1 ≤ RC ∧ zs + x.toNatClampNeg ≤ RS ∧ n + 1 ≤ 1000 ∧ k (pc + 2) L (.ref n :: st) (va_up sh n (.inr (.inl x.toNatClampNeg))) (n + 1) (va_up I n (fun _ => 0)) F (cs + 1) (zs + x.toNatClampNeg)
    | _ => False
  | .anewarray ix => match st with
    | .int x :: st => w = 3 ∧ ¬ x < 0 ∧ x.toNatClampNeg ≤ 1000 ∧ cs + 1 ≤ RC ∧ zs + x.toNatClampNeg ≤ RS ∧ n + 1 ≤ 1000 ∧ (match zkC c ix with
      | some 4 => k (pc + 3) L (.ref n :: st) (va_up sh n (.inr (.inr (0, List.replicate x.toNatClampNeg none)))) (n + 1) I F (cs + 1) (zs + x.toNatClampNeg)
      | some 2 => k (pc + 3) L (.ref n :: st) (va_up sh n (.inr (.inr (1, List.replicate x.toNatClampNeg none)))) (n + 1) I F (cs + 1) (zs + x.toNatClampNeg)
      | _ => False)
    | _ => False
  | .new ix => w = 3 ∧ match zkC c ix with
    | some ci => ci < 7 ∧ cs + 1 ≤ RC ∧ zs + (zdk ci).length ≤ RS ∧ n + 1 ≤ 1000 ∧ k (pc + 3) L (.ref n :: st) (va_up sh n (.inl (ci, zdk ci))) (n + 1) I (va_up F n (fun _ => 0)) (cs + 1) (zs + (zdk ci).length)
    | none => False
  | .invokevirtual ix => w = 3 ∧ match zml c ix with
    | some (id, na, 1) => zrc id na st sh n ∧ zcal S RC RS k pc L st sh n I F cs zs id na
    | _ => False
  | .invokestatic ix => w = 3 ∧ match zml c ix with
    | some (id, na, 0) => zcal S RC RS k pc L st sh n I F cs zs id na
    | some (id, na, 5) => zcal S RC RS k pc L st sh n I F cs zs id na
    | some (_, _, 6) => match st with
      | .int y :: .int x :: st => zct st ≤ 8 ∧ cs ≤ RC ∧ zs ≤ RS ∧ k (pc + 3) L (.int (zmx x y) :: st) sh n I F cs zs
      | _ => False
    | some (_, _, 7) => match st with
      | .int y :: .int x :: st => zct st ≤ 8 ∧ cs ≤ RC ∧ zs ≤ RS ∧ k (pc + 3) L (.int (zmn x y) :: st) sh n I F cs zs
      | _ => False
    | some (_, _, 4) => match st with
      | .int len :: .int dp :: .ref b :: .int sp :: .ref a :: st => zct st ≤ 8 ∧ (match zas sh n a, zas sh n b with
        | some na, some nb => ¬ sp < 0 ∧ ¬ dp < 0 ∧ ¬ len < 0 ∧ sp.toNatClampNeg + len.toNatClampNeg ≤ na ∧ dp.toNatClampNeg + len.toNatClampNeg ≤ nb ∧ k (pc + 3) L st sh n (va_up I b (va_cpy (I a) (I b) sp.toNatClampNeg dp.toNatClampNeg len.toNatClampNeg)) F cs zs
        | _, _ => False)
      | _ => False
    | _ => False
  | .invokespecial ix => w = 3 ∧ match zml c ix with
    | some (_, _, 3) => match st with
      | .ref _ :: st => zct st ≤ 8 ∧ k (pc + 3) L st sh n I F cs zs
      | _ => False
    | some (id, na, 2) => zrc id na st sh n ∧ zcal S RC RS k pc L st sh n I F cs zs id na
    | _ => False
  | _ => False
def zstep (E : zE) (c : Nat) (ini : Bool) (rt : Option FieldType) (S : zSs) (RC RS mc ms : Nat) (Post : zPo) (r : Except DecodeError (Instr × Nat)) (k : zK) (pc : Nat) (L : List (Option Value)) (st : List Value) (sh : Nat → zShp) (n : Nat) (I F : zI) (cs zs : Nat) : Prop := match r with
  | .ok (i, w) => zins E c ini rt S RC RS mc ms Post i w k pc L st sh n I F cs zs
  | .error _ => False
