/-! ===== THE ABSTRACT MACHINE: cells by numbers, shapes, int rows, int fields ===== -/
abbrev zShp : Type := (Nat × List (Option (Option Nat))) ⊕ (Nat ⊕ (Nat × List (Option Nat)))
abbrev zI : Type := Nat → Nat → Int32
abbrev zE : Type := Launch × (Nat → ClassId) × (Nat → Nat → Nat) × Nat × ClassId × (Nat → ClassId) × Nat × Nat × Nat × (Nat → Int32)
def zel (E : zE) : Launch := E.1
def zeG (E : zE) : va_G := (E.2.1, E.2.2.1)
def zeB (E : zE) : Nat := E.2.2.2.1
def zeA (E : zE) : ClassId := E.2.2.2.2.1
def zeR (E : zE) : Nat → ClassId := E.2.2.2.2.2.1
def zeD (E : zE) : Nat := E.2.2.2.2.2.2.1
def zeS (E : zE) : Nat := E.2.2.2.2.2.2.2.1
def zeL (E : zE) : Nat := E.2.2.2.2.2.2.2.2.1
def zex (E : zE) : Nat → Int32 := E.2.2.2.2.2.2.2.2.2
/-- a cell's address; 1000: DIGEST_DAYS, 1001: the script -/
def zad (E : zE) (k : Nat) : Nat := if k = 1000 then zeD E else if k = 1001 then zeS E else zeB E + k
def zcv (E : zE) : Value → Value
  | .ref k => .ref (zad E k)
  | v => v
def zfa (x : Int32) : Option (Option Nat) → Value
  | none => .int x
  | some none => .null
  | some (some r) => .ref r
def zcell (E : zE) (s : zShp) (a f : Nat → Int32) : va_E := match s with
  | .inl (ci, ks) => .inr (ci, ks.mapIdx (fun j k => zcv E (zfa (f j) k)))
  | .inr (.inl n) => .inl (zeA E, n, .inl a)
  | .inr (.inr (t, rs)) => .inl (zeR E t, rs.length, .inr (.inr (.inr (.inr (fun i => (rs.getD i none).map (zad E))))))
def zws (E : zE) (sh : Nat → zShp) (n : Nat) (I F : zI) : va_W := (List.range n).map fun k => (zeB E + k, zcell E (sh k) (I k) (F k))
def ztys (E : zE) : List (ClassId × FieldType) := [(zeA E, .int), (zeR E 0, .object RX4), (zeR E 1, .object RX2)]
def zA (E : zE) : Nat → Prop := fun q => zeB E ≤ q
def zdd : Nat → Int32 := fun j => if j = 0 then 0 else if j = 1 then 6 else if j = 2 then 12 else 23
def zTb (E : zE) (U : State) : Prop := va_K (zeG E) zcl (ztys E) U ∧ (∀ w ∈ ztbN, va_Nw w U) ∧ va_AO RX4 U ∧ va_AO RX2 U ∧ va_Z RX5 "DIGEST_DAYS" "[I" (.ref (zeD E)) (zA E) U U.heap ∧ va_X (zeD E) 4 zdd U U.heap ∧ zeD E < zeB E ∧ va_X (zeS E) (zeL E) (zex E) U U.heap ∧ zeS E < zeB E ∧ zeB E ≤ U.heap.size
def zHp (E : zE) (sh : Nat → zShp) (n : Nat) (I F : zI) (H : Heap) : Prop := va_P (zeG E) zcl (zws E sh n I F) H ∧ H.size = zeB E + n ∧ n ≤ 1000
def zWd (E : zE) (sh : Nat → zShp) (n : Nat) (I F : zI) (U : State) : Prop := zTb E U ∧ zHp E sh n I F U.heap
def zIn (E : zE) (s : State) (sh : Nat → zShp) (n : Nat) (I F : zI) (H : Heap) (lo : List Loc) : Prop := zHp E sh n I F H ∧ va_S (zA E) s.heap H lo
abbrev zPo : Type := Option Value → (Nat → zShp) → Nat → zI → zI → Prop
def zQ (E : zE) (Post : zPo) : Array Value → State → Outcome → State → Prop := fun _ st o t => (∃ v sh n I F, o = .returned (v.map (zcv E)) ∧ Post v sh n I F ∧ zWd E sh n I F t) ∧ va_F (zA E) st t
/-! locals -/
def zget : List (Option Value) → Nat → Option Value
  | [], _ => none
  | v :: _, 0 => v
  | _ :: L, i + 1 => zget L i
def zkl : Option Value → Nat → Option Value
  | some (.long _), 0 => none
  | some (.double _), 0 => none
  | v, _ => v
def zset : List (Option Value) → Nat → Value → List (Option Value)
  | [], _, _ => []
  | _ :: L, 0, v => some v :: L
  | a :: L, i + 1, v => zkl a i :: zset L i v
def zsetL : List (Option Value) → Nat → Value → List (Option Value)
  | [], _, _ => []
  | [_], 0, _ => [none]
  | _ :: _ :: L, 0, v => some v :: none :: L
  | a :: L, i + 1, v => zkl a i :: zsetL L i v
def zlv (E : zE) (ls : Array Slot) (nL : Nat) (L : List (Option Value)) : Prop := ls.size = nL ∧ lv_wf ls ∧ L.length = nL ∧ ∀ j v, zget L j = some v → ls[j]? = some (.val (zcv E v))
/-! tables -/
def zfl (c ix : Nat) : Option (Nat × Nat × Bool × Bool × Nat) := (zflT.find? (fun q => q.1 == c && q.2.1 == ix)).map (fun q => (q.2.2.1, q.2.2.2.1, q.2.2.2.2.1, q.2.2.2.2.2.1, q.2.2.2.2.2.2.1))
def zml (c ix : Nat) : Option (Nat × Nat × Nat) := (zmlT.find? (fun q => q.1 == c && q.2.1 == ix)).map (fun q => (q.2.2.1, q.2.2.2.1, q.2.2.2.2.1))
def zki (c ix : Nat) : Option Int32 := (zkiT.find? (fun q => q.1 == c && q.2.1 == ix)).map (fun q => q.2.2.1)
def zkL (c ix : Nat) : Option Int64 := (zklT.find? (fun q => q.1 == c && q.2.1 == ix)).map (fun q => q.2.2.1)
def zkC (c ix : Nat) : Option Nat := (zclT.find? (fun q => q.1 == c && q.2.1 == ix)).map (fun q => q.2.2.1)
/-! cells -/
def zfk (sh : Nat → zShp) (n r ci j : Nat) : Option (Option (Option Nat)) := if r < n then match sh r with
  | .inl (c, ks) => if c = ci then ks[j]? else none
  | _ => none else none
def zal (E : zE) (sh : Nat → zShp) (n : Nat) (I : zI) (r : Nat) : Option (Nat × (Nat → Int32)) := if r = 1000 then some (4, zdd) else if r = 1001 then some (zeL E, zex E) else if r < n then match sh r with
  | .inr (.inl k) => some (k, I r)
  | _ => none else none
def zas (sh : Nat → zShp) (n r : Nat) : Option Nat := if r < n then match sh r with
  | .inr (.inl k) => some k
  | _ => none else none
def zrs (sh : Nat → zShp) (n r : Nat) : Option (Nat × List (Option Nat)) := if r < n then match sh r with
  | .inr (.inr q) => some q
  | _ => none else none
def zrv : Option Nat → Value
  | some q => .ref q
  | none => .null
def zu2 (I : zI) (r i : Nat) (x : Int32) : zI := va_up I r (upd (I r) i x)
def zsr (sh : Nat → zShp) (r j q : Nat) : Nat → zShp := va_up sh r (match sh r with
  | .inl (c, ks) => .inl (c, ks.set j (some (some q)))
  | x => x)
def zdk (ci : Nat) : List (Option (Option Nat)) := (List.range (zcl.getD ci (RX0, TX0, 14)).2.2).map (fun j => if ((zcl.getD ci (RX0, TX0, 14)).2.1 j).2.2.1 = "I" ∨ ((zcl.getD ci (RX0, TX0, 14)).2.1 j).2.2.1 = "Z" then none else some none)
/-! specs: what a callee asks, answers, leaves -/
abbrev zR : Type := Prop × Option Value × (Nat → zShp) × Nat × zI × zI
abbrev zSp : Type := List Value → (Nat → zShp) → Nat → zI → zI → zR
abbrev zSs : Type := List (Nat × Nat × Nat × zSp)
def zlk : zSs → Nat → Option (Nat × Nat × zSp)
  | [], _ => none
  | q :: S, i => if i = q.1 then some q.2 else zlk S i
def ztk : Nat → List Value → List Value → Option (List Value × List Value)
  | 0, acc, st => some (acc, st)
  | _ + 1, _, [] => none
  | n + 1, acc, v :: st => ztk n (v :: acc) st
abbrev zK : Type := Nat → List (Option Value) → List Value → (Nat → zShp) → Nat → zI → zI → Nat → Nat → Prop
def zct (st : List Value) : Nat := (st.map fun v => v.category).sum
def zcal2 (r : zR) (n mc ms RC RS : Nat) (k : zK) (pc : Nat) (L : List (Option Value)) (st : List Value) (cs zs : Nat) : Prop :=
  r.1 ∧ r.2.2.2.1 = n + mc ∧ cs + mc ≤ RC ∧ zs + ms ≤ RS ∧ zct st ≤ 8 ∧ k (pc + 3) L (r.2.1.toList ++ st) r.2.2.1 r.2.2.2.1 r.2.2.2.2.1 r.2.2.2.2.2 (cs + mc) (zs + ms)
def zcal (S : zSs) (RC RS : Nat) (k : zK) (pc : Nat) (L : List (Option Value)) (st : List Value) (sh : Nat → zShp) (n : Nat) (I F : zI) (cs zs id na : Nat) : Prop := match zlk S id with
  | none => False
  | some (mc, ms, sp) => match ztk na [] st with
    | none => False
    | some (as, rest) => zcal2 (sp as sh n I F) n mc ms RC RS k pc L rest cs zs
/-- Math.max, Math.min -/
def zmx (x y : Int32) : Int32 := if x < y then y else x
def zmn (x y : Int32) : Int32 := if y < x then y else x
def zjm (pc : Nat) (off : Int) : Nat := ((pc : Int) + off).toNat
def zjk (pc : Nat) (off : Int) : Prop := 0 ≤ (pc : Int) + off
/-- a putfield of an int -/
def zpok (ini nest fin : Bool) (c ci ty : Nat) : Prop := fin = false ∨ (ini = true ∧ nest = false ∧ c = ci)
def zcn (sh : Nat → zShp) (n r : Nat) : Option Nat := if r < n then match sh r with
  | .inl (c, _) => some c
  | _ => none else none
def zrc (id na : Nat) (st : List Value) (sh : Nat → zShp) (n : Nat) : Prop := match ztk na [] st with
  | some (.ref r :: _, _) => zcn sh n r = some (id / 100)
  | _ => False
/-! contracts -/
def zw (id : Nat) : List Cond := .code (zmi id).1 (zmi id).2.1 (zmi id).2.2.1 (zmi id).2.2.2 :: ztbG
def zOk (E : zE) (k id mc ms : Nat) (as : List Value) (sh : Nat → zShp) (n : Nat) (I F : zI) (Post : zPo) : Prop :=
  Met (zel E) (zmi id).1 (zw id) { frames := k, cells := mc, slots := ms, locals := 38 * k } (va_Pc (as.map (zcv E)) (zWd E sh n I F)) (zQ E Post) mc ms (zA E)
def zV (E : zE) (k id mc ms : Nat) (sp : zSp) : Prop := ∀ as sh n I F, (sp as sh n I F).1 → zOk E k id mc ms as sh n I F (fun v sh' n' I' F' => v = (sp as sh n I F).2.1 ∧ sh' = (sp as sh n I F).2.2.1 ∧ n' = (sp as sh n I F).2.2.2.1 ∧ I' = (sp as sh n I F).2.2.2.2.1 ∧ F' = (sp as sh n I F).2.2.2.2.2)
def zSok (E : zE) (k : Nat) (S : zSs) : Prop := ∀ q ∈ S, zV E k q.1 q.2.1 q.2.2.1 q.2.2.2
def zCx (c : Nat) (cc : ByteArray) (nL : Nat) (rt : Option FieldType) (ini : Bool) (p : Program) (s : State) (m : MethodId) (args : Array Value) (meth : Method) (cd : Code) : Prop :=
  p.tables.exec = Jvm.exec ∧ cd.code = cc ∧ cd.maxLocals = nL ∧ s.vm.findClass (znm c) = some m.cls ∧ (∀ w ∈ ztbG, w.before args s = true) ∧ meth.sig.returnType = rt ∧ meth.locks = false ∧ (ini = true → meth.name = "<init>")
def zWv (E : zE) (p : Program) (e : Env) (R : Room) (s : State) (m : MethodId) (args : Array Value) (below : List Frame) (meth : Method) (cd : Code) (nL : Nat) (Q : State → Prop) : zK := fun pc L st sh n I F cs zs =>
  ∀ H lo ls, zIn E s sh n I F H lo → zlv E ls nL L → s.heap.size + cs = zeB E + n → W p (zel E) e R s m args below meth cd H lo cs zs Q (F0 m pc ls (st.map (zcv E)))
def zRm (R : Room) (RC RS k : Nat) : Prop := R.cells = RC ∧ R.slots = RS ∧ k + 1 ≤ R.frames ∧ 38 * k + 38 ≤ R.locals
