/-! the tables' rows are among the Statement's words, by their places -/
def zfW (q : Nat × Nat × Nat × Nat × Bool × Bool × Nat × Nat) : Cond :=
  let C := zcl.getD q.2.2.1 (RX0, TX0, 14)
  if q.2.2.2.2.1 = true then .fieldLinkNest (znm q.1) q.2.1 C.1 (C.2.1 q.2.2.2.1).2.1 (C.2.1 q.2.2.2.1).2.2.1 RX5
  else .fieldLink (znm q.1) q.2.1 C.1 (C.2.1 q.2.2.2.1).2.1 (C.2.1 q.2.2.2.1).2.2.1
def zfchk (q : Nat × Nat × Nat × Nat × Bool × Bool × Nat × Nat) : Bool :=
  let C := zcl.getD q.2.2.1 (RX0, TX0, 14)
  decide (lw_tbl[q.2.2.2.2.2.2.2]? = some (zfW q)) && (if q.2.2.2.2.1 = true then true else goodWord (zfW q)) && decide (q.2.2.1 < 7) && decide (q.2.2.2.1 < C.2.2) && ((C.2.1 q.2.2.2.1).1 == C.1)
   && ((C.2.1 q.2.2.2.1).2.2.2 == q.2.2.2.2.2.1) && decide ((if (C.2.1 q.2.2.2.1).2.2.1 = "I" then 0 else if (C.2.1 q.2.2.2.1).2.2.1 = "Z" then 1 else 2) = q.2.2.2.2.2.2.1)
set_option maxRecDepth 100000 in
theorem zflT_ok : zflT.all zfchk = true := by decide +kernel
abbrev zMq : Type := Nat × (MethodName × ByteArray × Nat × Option FieldType) × Nat × Nat × Nat × Nat × Nat × Bool
set_option maxRecDepth 100000 in
theorem zmT_1 : zmT.all (fun q : zMq => decide (lw_tbl[q.2.2.2.1]? = some (if q.2.2.2.2.2.2.2 = true then .static q.2.1.1 else .instanceMethod q.2.1.1))) = true := by decide +kernel
set_option maxRecDepth 100000 in
theorem zmT_2 : zmT.all (fun q : zMq => (q.2.2.2.2.2.2.2 || q.2.1.1.name == "<init>" || decide (lw_tbl[q.2.2.2.2.1]? = some (.selects q.2.1.1.cls q.2.1.1 q.2.1.1)))) = true := by decide +kernel
set_option maxRecDepth 100000 in
theorem zmT_3 : zmT.all (fun q : zMq => decide (lw_tbl[q.2.2.2.2.2.1]? = some (.initialized q.2.1.1.cls))) = true := by decide +kernel
set_option maxRecDepth 100000 in
theorem zmT_4 : zmT.all (fun q : zMq => decide (q.2.1.1.cls ≠ "java/lang/invoke/MethodHandle") && decide (q.2.1.1.cls ≠ "java/lang/invoke/VarHandle") && decide ((parseMethodDescriptor q.2.1.1.desc).map (fun d => d.parameters.length) = some q.2.2.2.2.2.2.1)
   && decide (q.2.1.2.2.1 ≤ 19)) = true := by decide +kernel
set_option maxRecDepth 100000 in
theorem zmT_5 : zmT.all (fun q : zMq => plainName q.2.1.1.cls) = true := by decide +kernel
set_option maxRecDepth 100000 in
theorem zmT_6 : zmT.all (fun q : zMq => goodWord (.code q.2.1.1 q.2.1.2.1 q.2.1.2.2.1 q.2.1.2.2.2)) = true := by decide +kernel
set_option maxRecDepth 100000 in
theorem zmT_nd : (zmT.map (fun q => q.1)).Pairwise (· < ·) := by decide +kernel
/-- a call's row: 0 static, 1 virtual, 2 a constructor, 3 Object's, 4 arraycopy, 5 static of a nest mate -/
def zlchk (q : Nat × Nat × Nat × Nat × Nat × Nat) : Bool :=
  match q.2.2.2.2.1 with
  | 3 => decide (lw_tbl[q.2.2.2.2.2]? = some (.methodLink (znm q.1) q.2.1 objectInit))
  | 4 => decide (lw_tbl[q.2.2.2.2.2]? = some (.methodLink (znm q.1) q.2.1 arraycopyName))
  | 6 => decide (lw_tbl[q.2.2.2.2.2]? = some (.methodLink (znm q.1) q.2.1 Lib.Math.max.name))
  | 7 => decide (lw_tbl[q.2.2.2.2.2]? = some (.methodLink (znm q.1) q.2.1 Lib.Math.min.name))
  | kd => match zmT.find? (fun r => r.1 == q.2.2.1) with
    | none => false
    | some r => match kd with
      | 5 => decide (lw_tbl[q.2.2.2.2.2]? = some (.methodLinkNest (znm q.1) q.2.1 r.2.1.1 RX5)) && r.2.2.2.2.2.2.2 && r.2.2.2.2.2.2.1 == q.2.2.2.1
      | 0 => decide (lw_tbl[q.2.2.2.2.2]? = some (.methodLink (znm q.1) q.2.1 r.2.1.1)) && r.2.2.2.2.2.2.2 && r.2.2.2.2.2.2.1 == q.2.2.2.1
      | 1 => decide (lw_tbl[q.2.2.2.2.2]? = some (.methodLink (znm q.1) q.2.1 r.2.1.1)) && !r.2.2.2.2.2.2.2 && r.2.2.2.2.2.2.1 + 1 == q.2.2.2.1 && !(r.2.1.1.name == "<init>") && (zcl.getD (q.2.2.1 / 100) (RX0, TX0, 14)).1 == r.2.1.1.cls && decide (q.2.2.1 / 100 < 7)
      | 2 => decide (lw_tbl[q.2.2.2.2.2]? = some (.methodLink (znm q.1) q.2.1 r.2.1.1)) && !r.2.2.2.2.2.2.2 && r.2.2.2.2.2.2.1 + 1 == q.2.2.2.1 && (r.2.1.1.name == "<init>") && decide (r.2.1.2.2.2 = none)
      | _ => false
set_option maxRecDepth 100000 in
theorem zmlT_ok : zmlT.all zlchk = true := by decide +kernel
set_option maxRecDepth 100000 in
theorem zkiT_ok : zkiT.all (fun q => decide (lw_tbl[q.2.2.2]? = some (.constant (znm q.1) q.2.1 q.2.2.1))) = true := by decide +kernel
set_option maxRecDepth 100000 in
theorem zklT_ok : zklT.all (fun q => decide (lw_tbl[q.2.2.2]? = some (.constantLong (znm q.1) q.2.1 q.2.2.1))) = true := by decide +kernel
set_option maxRecDepth 100000 in
theorem zclT_ok : zclT.all (fun q => decide (lw_tbl[q.2.2.2]? = some (.classLink (znm q.1) q.2.1 (znm q.2.2.1)))) = true := by decide +kernel
set_option maxRecDepth 100000 in
theorem zuW0 : (wsX00.all (fun w => decide (w ∈ lw_tbl) && goodWord w) && wsX10.all (fun w => decide (w ∈ lw_tbl) && goodWord w) && wsX20.all (fun w => decide (w ∈ lw_tbl) && goodWord w) && wsX30.all (fun w => decide (w ∈ lw_tbl) && goodWord w)
  && wsX40.all (fun w => decide (w ∈ lw_tbl) && goodWord w) && wsX50.all (fun w => decide (w ∈ lw_tbl) && goodWord w) && wsX60.all (fun w => decide (w ∈ lw_tbl) && goodWord w)) = true := by decide +kernel
def zWl : List Cond := [Cond.instantiable RX0 14, .instantiable RX1 13, .instantiable RX2 3, .instantiable RX3 4, .instantiable RX4 5, .instantiable RX5 10, .instantiable RX6 37, .arrayClass .int, .initialized "java/lang/System", .instanceMethod objectInit, .code objectInit ⟨#[0xb1]⟩ 1 none, .initialized RX0, .initialized RX1, .initialized RX2, .initialized RX3, .initialized RX4, .initialized RX5, .initialized RX6, .static Lib.Math.max.name, .static Lib.Math.min.name, .initialized "java/lang/Math", .code Lib.Math.max.name Lib.Math.max.code 2 (some .int), .code Lib.Math.min.name Lib.Math.min.code 2 (some .int)]
set_option maxRecDepth 100000 in
theorem zuW1 : (zWl.all (fun w => decide (w ∈ lw_tbl) && goodWord w)) = true := by decide +kernel
set_option maxRecDepth 100000 in
theorem zuWa : ([Cond.native arraycopyName].all (fun w => decide (w ∈ lw_tbl) && goodWord w)) = true := by decide +kernel
set_option maxRecDepth 100000 in
theorem zuWb : ([Cond.static arraycopyName].all (fun w => decide (w ∈ lw_tbl) && goodWord w)) = true := by decide +kernel
set_option maxRecDepth 100000 in
theorem zuWc : ([Cond.fieldLink RX5 338 RX5 "DIGEST_DAYS" "[I"].all (fun w => decide (w ∈ lw_tbl) && goodWord w)) = true := by decide +kernel
set_option maxRecDepth 100000 in
theorem zuWd : ([Cond.laysStatic RX5 "DIGEST_DAYS" "[I"].all (fun w => decide (w ∈ lw_tbl))) = true := by decide +kernel
set_option maxRecDepth 100000 in
theorem zuW2 : ([Cond.arrayOver (.object RX4), .arrayOver (.object RX2)].all (fun w => decide (w ∈ lw_tbl))) = true := by decide +kernel
