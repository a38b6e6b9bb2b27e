/-! ===== every table is what the bytes and the words say ===== -/
abbrev mNm (q : ME) : MethodName := q.1
abbrev mBy (q : ME) : ByteArray := q.2.1
abbrev mMl (q : ME) : Nat := q.2.2.1
abbrev mRt (q : ME) : Option FieldType := q.2.2.2.1
abbrev mOw (q : ME) : Nat := q.2.2.2.2.1
abbrev mKd (q : ME) : Nat := q.2.2.2.2.2.1
abbrev mNa (q : ME) : Nat := q.2.2.2.2.2.2.1
abbrev mWs (q : ME) : Nat × Nat × Nat × Nat := q.2.2.2.2.2.2.2.1
abbrev mTb (q : ME) : List (List (Option XE)) := q.2.2.2.2.2.2.2.2
def tbGet (tb : List (List (Option XE))) (pc : Nat) : Option XE := ((tb[pc / 16]?).bind (fun r => r[pc % 16]?)).bind id
def valR (q : RE) : Bool :=
  match q.2.2.1 with
  | 0 => decide (lw_tbl[q.2.2.2.2.2]? = some (.fieldLink (ownN q.1) q.2.1 (ownN q.2.2.2.1) (clT q.2.2.2.1 q.2.2.2.2.1).2.1 (clT q.2.2.2.1 q.2.2.2.2.1).2.2.1)) && (decide (q.2.2.2.2.1 < clN q.2.2.2.1) && (decide ((clT q.2.2.2.1 q.2.2.2.2.1).1 = ownN q.2.2.2.1) && decide (q.2.2.2.1 < 13)))
  | 1 => match meths[q.2.2.2.1]? with
    | some me => decide (lw_tbl[q.2.2.2.2.2]? = some (.methodLink (ownN q.1) q.2.1 (mNm me)))
    | none => false
  | 2 => match meths[q.2.2.2.1]? with
    | some me => decide (lw_tbl[q.2.2.2.2.2]? = some (.methodLinkNest (ownN q.1) q.2.1 (mNm me) "FlyerRoom"))
    | none => false
  | 3 => decide (lw_tbl[q.2.2.2.2.2]? = some (.methodLink (ownN q.1) q.2.1 objectInit))
  | 4 => decide (lw_tbl[q.2.2.2.2.2]? = some (.methodLink (ownN q.1) q.2.1 arraycopyName))
  | 5 => decide (lw_tbl[q.2.2.2.2.2]? = some (.classLink (ownN q.1) q.2.1 (ownN q.2.2.2.1))) && decide (q.2.2.2.1 < 13)
  | 7 => decide (lw_tbl[q.2.2.2.2.2]? = some (.constant (ownN q.1) q.2.1 (cI q.2.2.2.1)))
  | 8 => decide (lw_tbl[q.2.2.2.2.2]? = some (.constantLong (ownN q.1) q.2.1 (cL q.2.2.2.1)))
  | _ => false
def refOk (o ix k a b w : Nat) : Bool := match RL[w]? with
  | some q => decide (q.1 = o) && (decide (q.2.1 = ix) && (decide (q.2.2.1 = k) && (decide (q.2.2.2.1 = a) && decide (q.2.2.2.2.1 = b))))
  | none => false
def callOk (o ix a b w kd : Nat) : Bool := (refOk o ix 1 a 0 w || refOk o ix 2 a 0 w) && match meths[a]? with
  | some me => decide (mKd me = kd) && decide (b = if kd = 2 then mNa me else mNa me + 1)
  | none => false
def anewOk (o ix a w : Nat) : Bool := match RL[w]? with
  | some q => decide (q.1 = o) && (decide (q.2.1 = ix) && (decide (q.2.2.1 = 5) && (decide (kty a = .object (ownN q.2.2.2.1)) && (decide (a < 8) && decide (4 ≤ a)))))
  | none => false
def valE (o : Nat) (e : XE) : Bool :=
  match e.1 with
  | .getfield ix => refOk o ix 0 e.2.2.2.1 e.2.2.2.2.1 e.2.2.2.2.2
  | .putfield ix => refOk o ix 0 e.2.2.2.1 e.2.2.2.2.1 e.2.2.2.2.2
  | .invokevirtual ix => callOk o ix e.2.2.2.1 e.2.2.2.2.1 e.2.2.2.2.2 0
  | .invokespecial ix => if e.2.2.1 = 5 then refOk o ix 3 0 0 e.2.2.2.2.2 else callOk o ix e.2.2.2.1 e.2.2.2.2.1 e.2.2.2.2.2 1
  | .invokestatic ix => if e.2.2.1 = 4 then refOk o ix 4 0 0 e.2.2.2.2.2 else callOk o ix e.2.2.2.1 e.2.2.2.2.1 e.2.2.2.2.2 2
  | .new ix => refOk o ix 5 e.2.2.2.1 0 e.2.2.2.2.2
  | .anewarray ix => anewOk o ix e.2.2.2.1 e.2.2.2.2.2
  | .newarray ty => decide (kty e.2.2.2.1 = newarray.typeOf ty) && decide (e.2.2.2.1 < 4)
  | .ldc ix => refOk o ix 7 e.2.2.2.1 0 e.2.2.2.2.2
  | .ldc_w ix => refOk o ix 7 e.2.2.2.1 0 e.2.2.2.2.2
  | .ldc2_w ix => refOk o ix 8 e.2.2.2.1 0 e.2.2.2.2.2
  | _ => true
def chkE (by_ : ByteArray) (o pc : Nat) (e : XE) : Bool := decide (decode by_ pc = .ok (e.1, e.2.1)) && valE o e
def tbOk (by_ : ByteArray) (o : Nat) (tb : List (List (Option XE))) : Bool := (List.range (16 * tb.length)).all fun pc => match tbGet tb pc with
  | some e => chkE by_ o pc e
  | none => true
set_option maxRecDepth 100000 in
theorem rl_ok : RL.all valR = true := by decide +kernel
