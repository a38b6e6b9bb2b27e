/-! ===== the shadow machine: the bytecode worked over a heap that is a list (a reference is a place in it) ===== -/
abbrev SC : Type := (Nat × List Value) ⊕ (Nat × (List Int32 ⊕ List Int64 ⊕ List (Option Nat)))
abbrev SH : Type := List SC
abbrev LV : Type := List (Nat × Value)
def sIdx : Nat := 1000000000
def lvGet (lv : LV) (i : Nat) : Option Value := (lv.find? (fun q => q.1 == i)).map (fun q => q.2)
def lvSet1 (lv : LV) (i : Nat) (v : Value) : LV := (i, v) :: lv.filter (fun q => !(q.1 == i) && !(q.1 + 1 == i && q.2.category == 2))
def lvSet2 (lv : LV) (i : Nat) (v : Value) : LV := (i, v) :: lv.filter (fun q => !(q.1 == i) && (!(q.1 == i + 1) && !(q.1 + 1 == i && q.2.category == 2)))
def okV (n : Nat) (v : Value) : Bool := match v with
  | .ref i => decide (i < n) || i == sIdx
  | _ => true
def okVs (n : Nat) (v : Value) : Bool := match v with
  | .ref i => decide (i < n)
  | _ => true
def okC (n : Nat) (c : SC) : Bool := match c with
  | .inl q => q.2.all (okVs n)
  | .inr (_, .inr (.inr l)) => l.all (fun o => match o with
    | some i => decide (i < n)
    | none => true)
  | _ => true
def okFr (n : Nat) (st : List Value) (lv : LV) : Bool := st.all (okV n) && lv.all (fun q => okV n q.2)
-- stack alone
def bi (f : Int32 → Int32 → Int32) (st : List Value) : Option (List Value) := match st with
  | .int y :: .int x :: r => some (.int (f x y) :: r)
  | _ => none
def bl (f : Int64 → Int64 → Int64) (st : List Value) : Option (List Value) := match st with
  | .long y :: .long x :: r => some (.long (f x y) :: r)
  | _ => none
def ui (f : Int32 → Int32) (st : List Value) : Option (List Value) := match st with
  | .int x :: r => some (.int (f x) :: r)
  | _ => none
def biN (f : Int32 → Int32 → Int32) (st : List Value) : Option (List Value) := match st with
  | .int y :: .int x :: r => if y = 0 then none else some (.int (f x y) :: r)
  | _ => none
def blN (f : Int64 → Int64 → Int64) (st : List Value) : Option (List Value) := match st with
  | .long y :: .long x :: r => if y = 0 then none else some (.long (f x y) :: r)
  | _ => none
def ldI (lv : LV) (k : Nat) (st : List Value) : Option (List Value) := match lvGet lv k with
  | some (.int x) => some (.int x :: st)
  | _ => none
def ldL (lv : LV) (k : Nat) (st : List Value) : Option (List Value) := match lvGet lv k with
  | some (.long x) => some (.long x :: st)
  | _ => none
def ldA (lv : LV) (k : Nat) (st : List Value) : Option (List Value) := match lvGet lv k with
  | some (.ref x) => some (.ref x :: st)
  | _ => none
def stepA (i : Instr) (a : Nat) (st : List Value) (lv : LV) : Option (List Value) := match i with
  | .iconst n => some (.int (Int32.ofInt n) :: st)
  | .bipush n => some (.int (Int8.ofInt n).toInt32 :: st)
  | .sipush n => some (.int (Int16.ofInt n).toInt32 :: st)
  | .lconst n => some (.long (Int64.ofNat (n : Nat)) :: st)
  | .ldc _ => some (.int (cI a) :: st)
  | .ldc_w _ => some (.int (cI a) :: st)
  | .ldc2_w _ => some (.long (cL a) :: st)
  | .iload k => ldI lv k st
  | .iload_n k => ldI lv (k : Nat) st
  | .lload k => ldL lv k st
  | .lload_n k => ldL lv (k : Nat) st
  | .aload k => ldA lv k st
  | .aload_n k => ldA lv (k : Nat) st
  | .iadd => bi (fun x y => x + y) st
  | .isub => bi (fun x y => x - y) st
  | .imul => bi (fun x y => x * y) st
  | .iand => bi (fun x y => x &&& y) st
  | .ior => bi (fun x y => x ||| y) st
  | .ixor => bi (fun x y => x ^^^ y) st
  | .ishl => bi (fun x y => x <<< (y &&& 31)) st
  | .ishr => bi (fun x y => x >>> (y &&& 31)) st
  | .iushr => bi (fun x y => (x.toUInt32 >>> (y.toUInt32 &&& Int32.toUInt32 31)).toInt32) st
  | .idiv => biN (fun x y => x / y) st
  | .irem => biN (fun x y => x - x / y * y) st
  | .ineg => ui (fun x => -x) st
  | .i2c => ui (fun x => (x.toUInt32 % 65536).toInt32) st
  | .ladd => bl (fun x y => x + y) st
  | .lsub => bl (fun x y => x - y) st
  | .lmul => bl (fun x y => x * y) st
  | .ldiv => blN (fun x y => x / y) st
  | .lneg => match st with
    | .long x :: r => some (.long (-x) :: r)
    | _ => none
  | .i2l => match st with
    | .int x :: r => some (.long x.toInt64 :: r)
    | _ => none
  | .l2i => match st with
    | .long x :: r => some (.int x.toInt32 :: r)
    | _ => none
  | .lcmp => match st with
    | .long y :: .long x :: r => some (.int (lg_cmp x y) :: r)
    | _ => none
  | .dup => match st with
    | v :: r => if v.category = 1 then some (v :: v :: r) else none
    | _ => none
  | .dup2 => match st with
    | v :: w :: r => if v.category = 1 ∧ w.category = 1 then some (v :: w :: v :: w :: r) else none
    | _ => none
  | _ => none
-- into locals
def stI (nL : Nat) (lv : LV) (k : Nat) (st : List Value) : Option (List Value × LV) := match st with
  | .int x :: r => if k < nL then some (r, lvSet1 lv k (.int x)) else none
  | _ => none
def stL (nL : Nat) (lv : LV) (k : Nat) (st : List Value) : Option (List Value × LV) := match st with
  | .long x :: r => if k + 1 < nL then some (r, lvSet2 lv k (.long x)) else none
  | _ => none
def stA (nL : Nat) (lv : LV) (k : Nat) (st : List Value) : Option (List Value × LV) := match st with
  | .ref x :: r => if k < nL then some (r, lvSet1 lv k (.ref x)) else none
  | _ => none
def stepB (i : Instr) (nL : Nat) (st : List Value) (lv : LV) : Option (List Value × LV) := match i with
  | .istore k => stI nL lv k st
  | .istore_n k => stI nL lv (k : Nat) st
  | .lstore k => stL nL lv k st
  | .lstore_n k => stL nL lv (k : Nat) st
  | .astore k => stA nL lv k st
  | .astore_n k => stA nL lv (k : Nat) st
  | .iinc k n => match lvGet lv k with
    | some (.int x) => if k < nL then some (st, lvSet1 lv k (.int (x + Int32.ofInt n))) else none
    | _ => none
  | .pop => match st with
    | v :: r => if v.category = 1 then some (r, lv) else none
    | _ => none
  | .pop2 => match st with
    | v :: r => if v.category = 2 then some (r, lv) else none
    | _ => none
  | _ => none
-- jumps
def jmp (pc : Nat) (off : Int) : Option Nat := if 0 ≤ (pc : Int) + off then some ((pc : Int) + off).toNat else none
def cnd (c : Jvm.ClassFile.Cond) (x y : Int32) : Bool := match c with
  | .eq => decide (x = y)
  | .ne => decide (¬ x = y)
  | .lt => decide (x < y)
  | .ge => decide (y ≤ x)
  | .gt => decide (y < x)
  | .le => decide (x ≤ y)
def jIf (b : Bool) (pc : Nat) (off : Int) (r : List Value) : Option (Nat × List Value) := match jmp pc off with
  | some t => some (if b = true then t else pc + 3, r)
  | none => none
def stepC (i : Instr) (pc : Nat) (st : List Value) : Option (Nat × List Value) := match i with
  | .goto off => (jmp pc off).map (fun t => (t, st))
  | .ifCond c off => match st with
    | .int x :: r => jIf (cnd c x 0) pc off r
    | _ => none
  | .if_icmp c off => match st with
    | .int y :: .int x :: r => jIf (cnd c x y) pc off r
    | _ => none
  | .ifnull off => match st with
    | .ref _ :: r => some (pc + 3, r)
    | .null :: r => (jmp pc off).map (fun t => (t, r))
    | _ => none
  | .ifnonnull off => match st with
    | .ref _ :: r => (jmp pc off).map (fun t => (t, r))
    | .null :: r => some (pc + 3, r)
    | _ => none
  | .tableswitch d lo hi offs => match st with
    | .int x :: r => if x.toInt < lo ∨ hi < x.toInt then (jmp pc d).map (fun t => (t, r)) else match offs[(x.toInt - lo).toNat]? with
      | some off => (jmp pc off).map (fun t => (t, r))
      | none => none
    | _ => none
  | .lookupswitch d ps => match st with
    | .int x :: r => if (ps.toList.zip (ps.toList.drop 1)).all (fun (a, next) => a.1 < next.1) = true then (jmp pc (Op.lookupswitch.offset ps.toList d x.toInt)).map (fun t => (t, r)) else none
    | _ => none
  | _ => none
-- reads of the heap
def inB (j : Int32) (n : Nat) : Bool := decide (0 ≤ j) && decide (j.toNatClampNeg < n)
def aI (κ : Nat) (st : List Value) (σ : SH) : Option (List Value) := match st with
  | .int j :: .ref q :: r => match σ[q]? with
    | some (.inr (k, .inl l)) => if k = κ ∧ inB j l.length = true then some (.int (l.getD j.toNatClampNeg 0) :: r) else none
    | _ => none
  | _ => none
def stepD (scr : Option (List Int32)) (i : Instr) (a b : Nat) (st : List Value) (σ : SH) : Option (List Value) := match i with
  | .getfield _ => match st with
    | .ref q :: r => match σ[q]? with
      | some (.inl (ci, fs)) => if ci = a then (fs[b]?).map (fun v => v :: r) else none
      | _ => none
    | _ => none
  | .iaload => match scr with
    | none => aI 0 st σ
    | some xs => match st with
      | .int j :: .ref q :: r => if q = sIdx then (if inB j xs.length = true then some (.int (xs.getD j.toNatClampNeg 0) :: r) else none) else none
      | _ => none
  | .caload => aI 2 st σ
  | .baload => aI 3 st σ
  | .laload => match st with
    | .int j :: .ref q :: r => match σ[q]? with
      | some (.inr (k, .inr (.inl l))) => if k = 1 ∧ inB j l.length = true then some (.long (l.getD j.toNatClampNeg 0) :: r) else none
      | _ => none
    | _ => none
  | .aaload => match st with
    | .int j :: .ref q :: r => match σ[q]? with
      | some (.inr (k, .inr (.inr l))) => if 4 ≤ k ∧ k < 8 ∧ inB j l.length = true then some (va_rf (l.getD j.toNatClampNeg none) :: r) else none
      | _ => none
    | _ => none
  | .arraylength => match scr with
    | none => match st with
      | .ref q :: r => match σ[q]? with
        | some (.inr (k, .inl l)) => if k < 8 then some (.int (Int32.ofNat l.length) :: r) else none
        | some (.inr (k, .inr (.inl l))) => if k < 8 then some (.int (Int32.ofNat l.length) :: r) else none
        | _ => none
      | _ => none
    | some xs => match st with
      | .ref q :: r => if q = sIdx then some (.int (Int32.ofNat xs.length) :: r) else none
      | _ => none
  | _ => none
-- writes
def fitF (ty : FieldType) (v : Value) : Bool := match ty, v with
  | .int, .int _ => true
  | .object _, .ref _ => true
  | .object _, .null => true
  | .array _, .ref _ => true
  | .array _, .null => true
  | _, _ => false
def sI (κ : Nat) (ty : FieldType) (st : List Value) (σ : SH) : Option (List Value × SH) := match st with
  | .int x :: .int j :: .ref q :: r => match σ[q]? with
    | some (.inr (k, .inl l)) => if k = κ ∧ inB j l.length = true then some (r, σ.set q (.inr (k, .inl (l.set j.toNatClampNeg (vp_nar ty x))))) else none
    | _ => none
  | _ => none
def cpyL (f g : List Int32) (sp dp n : Nat) : List Int32 := g.take dp ++ ((f.drop sp).take n ++ g.drop (dp + n))
def stepE (ini : Bool) (o : Nat) (i : Instr) (a b : Nat) (st : List Value) (σ : SH) : Option (List Value × SH) := match i with
  | .putfield _ => match st with
    | v :: .ref q :: r => match σ[q]? with
      | some (.inl (ci, fs)) => if ci = a ∧ b < fs.length ∧ fitF (clY a b) v = true ∧ ((clT a b).2.2.2 = false ∨ (ini = true ∧ o = a)) then some (r, σ.set q (.inl (ci, fs.set b v))) else none
      | _ => none
    | _ => none
  | .iastore => sI 0 .int st σ
  | .castore => sI 2 .char st σ
  | .bastore => sI 3 .boolean st σ
  | .lastore => match st with
    | .long x :: .int j :: .ref q :: r => match σ[q]? with
      | some (.inr (k, .inr (.inl l))) => if k = 1 ∧ inB j l.length = true then some (r, σ.set q (.inr (k, .inr (.inl (l.set j.toNatClampNeg x))))) else none
      | _ => none
    | _ => none
  | .aastore => match st with
    | .ref v :: .int j :: .ref q :: r => match σ[q]?, σ[v]? with
      | some (.inr (k, .inr (.inr l))), some (.inl (ci, _)) => if kty k = .object (ownN ci) ∧ k < 8 ∧ ci < 13 ∧ inB j l.length = true then some (r, σ.set q (.inr (k, .inr (.inr (l.set j.toNatClampNeg (some v)))))) else none
      | _, _ => none
    | _ => none
  | .invokestatic _ => match st with
    | .int n :: .int dp :: .ref q1 :: .int sp :: .ref q0 :: r => match σ[q0]?, σ[q1]? with
      | some (.inr (k0, .inl f)), some (.inr (k1, .inl g)) =>
        if (k0 = k1 ∧ (k0 = 0 ∨ k0 = 2)) ∧ (0 ≤ sp ∧ 0 ≤ dp ∧ 0 ≤ n) ∧ (sp.toNatClampNeg + n.toNatClampNeg ≤ f.length ∧ dp.toNatClampNeg + n.toNatClampNeg ≤ g.length) ∧ (f.all (fun x => fits (kty k0) (.int x)) = true ∧ (r.map fun v => v.category).sum ≤ 8)
        then some (r, σ.set q1 (.inr (k1, .inl (cpyL f g sp.toNatClampNeg dp.toNatClampNeg n.toNatClampNeg)))) else none
      | _, _ => none
    | _ => none
  | _ => none
-- new cells
def blankF (ci : Nat) : List Value := (List.range (clN ci)).map (fun k => defaultValue (clY ci k))
def newOk (σ : SH) (st : List Value) (lv : LV) : Bool := decide (σ.length < sIdx) && (σ.all (okC σ.length) && okFr σ.length st lv)
def stepF (i : Instr) (a : Nat) (st : List Value) (lv : LV) (σ : SH) : Option (List Value × SH × Nat × Nat) := match i with
  | .new _ => if newOk σ st lv = true ∧ a < 13 then some (.ref σ.length :: st, σ ++ [.inl (a, blankF a)], 1, clN a) else none
  | .newarray _ => match st with
    | .int n :: r => if newOk σ st lv = true ∧ 0 ≤ n ∧ n.toNatClampNeg ≤ 10000 then
        (match a with
        | 1 => some (.ref σ.length :: r, σ ++ [.inr (1, .inr (.inl (List.replicate n.toNatClampNeg 0)))], 1, n.toNatClampNeg)
        | 0 => some (.ref σ.length :: r, σ ++ [.inr (0, .inl (List.replicate n.toNatClampNeg 0))], 1, n.toNatClampNeg)
        | 2 => some (.ref σ.length :: r, σ ++ [.inr (2, .inl (List.replicate n.toNatClampNeg 0))], 1, n.toNatClampNeg)
        | 3 => some (.ref σ.length :: r, σ ++ [.inr (3, .inl (List.replicate n.toNatClampNeg 0))], 1, n.toNatClampNeg)
        | _ => none) else none
    | _ => none
  | .anewarray _ => match st with
    | .int n :: r => if newOk σ st lv = true ∧ 0 ≤ n ∧ n.toNatClampNeg ≤ 10000 ∧ (4 ≤ a ∧ a < 8) then some (.ref σ.length :: r, σ ++ [.inr (a, .inr (.inr (List.replicate n.toNatClampNeg none)))], 1, n.toNatClampNeg) else none
    | _ => none
  | .invokespecial _ => match st with
    | .ref _ :: r => if (r.map fun v => v.category).sum ≤ 8 then some (r, σ, 0, 0) else none
    | _ => none
  | _ => none
-- returns
def stepR (i : Instr) (st : List Value) : Option (Option Value) := match i with
  | .ireturn => match st with
    | [.int x] => some (some (.int x))
    | _ => none
  | .lreturn => match st with
    | [.long x] => some (some (.long x))
    | _ => none
  | .return_ => match st with
    | [] => some none
    | _ => none
  | _ => none
-- a call: its arguments, the rest of the stack
def isCls (me : ME) (as : List Value) (σ : SH) : Bool := match mKd me, as with
  | 0, .ref q :: _ => match σ[q]? with
    | some (.inl (ci, _)) => decide (ci = mOw me) && decide (ci < 13)
    | _ => false
  | 1, .ref _ :: _ => true
  | 2, _ => true
  | _, _ => false
def callIn (a b : Nat) (st : List Value) (lv : LV) (σ : SH) : Option (List Value × List Value) := match meths[a]? with
  | some me => if b ≤ st.length ∧ ((st.drop b).map fun v => v.category).sum ≤ 8 ∧ okFr σ.length (st.drop b) lv = true ∧ isCls me (st.take b).reverse σ = true then some ((st.take b).reverse, st.drop b) else none
  | none => none
def isCall (i : Instr) : Bool := match i with
  | .invokevirtual _ => true
  | .invokespecial _ => true
  | .invokestatic _ => true
  | _ => false
abbrev Res : Type := Option Value × SH × Nat × Nat
-- a call sees only the cells that its arguments reach, numbered as they are met
def refsV (v : Value) : List Nat := match v with
  | .ref i => [i]
  | _ => []
def refsC (c : SC) : List Nat := match c with
  | .inl q => q.2.flatMap refsV
  | .inr (_, .inr (.inr l)) => l.filterMap id
  | _ => []
def reach (σ : SH) : Nat → List Nat → List Nat → List Nat
  | 0, _, seen => seen
  | _ + 1, [], seen => seen
  | n + 1, i :: td, seen => if i ∈ seen then reach σ n td seen else match σ[i]? with
    | some c => reach σ n (refsC c ++ td) (i :: seen)
    | none => reach σ n td seen
def ixOf (j : Nat) : List Nat → Nat
  | [] => 0
  | a :: l => if a = j then 0 else ixOf j l + 1
def rnV (I : List Nat) (v : Value) : Value := match v with
  | .ref j => .ref (ixOf j I)
  | v => v
def rnC (I : List Nat) (c : SC) : SC := match c with
  | .inl q => .inl (q.1, q.2.map (rnV I))
  | .inr (k, .inr (.inr l)) => .inr (k, .inr (.inr (l.map (Option.map (fun j => ixOf j I)))))
  | c => c
def urN (I : List Nat) (n k : Nat) : Nat := if k < I.length then I.getD k 0 else n + (k - I.length)
def urV (I : List Nat) (n : Nat) (v : Value) : Value := match v with
  | .ref k => .ref (urN I n k)
  | v => v
def urC (I : List Nat) (n : Nat) (c : SC) : SC := match c with
  | .inl q => .inl (q.1, q.2.map (urV I n))
  | .inr (k, .inr (.inr l)) => .inr (k, .inr (.inr (l.map (Option.map (urN I n)))))
  | c => c
def cutOk (σ : SH) (as : List Value) (I : List Nat) : Bool := va_nd I && (as.all (fun v => (refsV v).all (fun i => decide (i ∈ I))) && I.all (fun i => match σ[i]? with
  | some c => (refsC c).all (fun j => decide (j ∈ I))
  | none => false))
def subH (σ : SH) (I : List Nat) : SH := I.map (fun i => rnC I (σ.getD i (.inl (0, []))))
def paste (σ : SH) (I : List Nat) (h1 : SH) : SH := σ.mapIdx (fun i c => if i ∈ I then urC I σ.length (h1.getD (ixOf i I) c) else c) ++ (h1.drop I.length).map (urC I σ.length)
def locC (call : Nat → List Value → SH → Option Res) (a : Nat) (as : List Value) (σ : SH) (I : List Nat) : Option Res :=
  if cutOk σ as I = true then match call a (as.map (rnV I)) (subH σ I) with
    | some (r, h1, c1, s1) => if I.length ≤ h1.length ∧ (h1.length = I.length ∨ (σ.all (okC σ.length) = true ∧ σ.length + h1.length < sIdx)) ∧ h1.all (okC h1.length) = true then some (r, paste σ I h1, c1, s1) else none
    | none => none
  else none
def cutI (σ : SH) (as : List Value) : List Nat := (reach σ 100000 (as.flatMap refsV) []).reverse
def locCall (call : Nat → List Value → SH → Option Res) (a : Nat) (as : List Value) (σ : SH) : Option Res := locC call a as σ (cutI σ as)
def exec (scr : Option (List Int32)) (ini : Bool) (o nL : Nat) (tb : List (List (Option XE))) (call : Nat → List Value → SH → Option Res) : Nat → Nat → List Value → LV → SH → Option Res
  | 0, _, _, _, _ => none
  | n + 1, pc, st, lv, σ => match tbGet tb pc with
    | none => none
    | some (i, len, g, a, b, _) => match g with
      | 0 => match stepA i a st lv with
        | some st' => exec scr ini o nL tb call n (pc + len) st' lv σ
        | none => none
      | 1 => match stepB i nL st lv with
        | some (st', lv') => exec scr ini o nL tb call n (pc + len) st' lv' σ
        | none => none
      | 2 => match stepC i pc st with
        | some (pc', st') => exec scr ini o nL tb call n pc' st' lv σ
        | none => none
      | 3 => match stepD scr i a b st σ with
        | some st' => exec scr ini o nL tb call n (pc + len) st' lv σ
        | none => none
      | 4 => match stepE ini o i a b st σ with
        | some (st', σ') => exec scr ini o nL tb call n (pc + len) st' lv σ'
        | none => none
      | 5 => match stepF i a st lv σ with
        | some (st', σ', kc, ks) => match exec scr ini o nL tb call n (pc + len) st' lv σ' with
          | some (r, σ2, c2, s2) => some (r, σ2, kc + c2, ks + s2)
          | none => none
        | none => none
      | 6 => match stepR i st with
        | some r => some (r, σ, 0, 0)
        | none => none
      | 7 => if isCall i = true then (match callIn a b st lv σ with
        | some (as, rest) => match locCall call a as σ with
          | some (r, σ1, c1, s1) => (match exec scr ini o nL tb call n (pc + 3) (r.toList ++ rest) lv σ1 with
            | some (r2, σ2, c2, s2) => some (r2, σ2, c1 + c2, s1 + s2)
            | none => none)
          | none => none
        | none => none) else none
      | _ => none
def retOk (ret : Option FieldType) (r : Option Value) : Bool := match ret, r with
  | none, none => true
  | some .int, some (.int _) => true
  | some .boolean, some (.int x) => decide (x &&& 1 = x)
  | some .long, some (.long _) => true
  | _, _ => false
def runM (F : Nat) : Nat → Nat → List Value → SH → Option Res
  | 0, _, _, _ => none
  | d + 1, mi, as, σ => match meths[mi]? with
    | none => none
    | some me => if (lg_sl as).length ≤ mMl me ∧ as.length = (if mKd me = 2 then mNa me else mNa me + 1) then (match exec none (mKd me == 1) (mOw me) (mMl me) (mTb me) (runM F d) F 0 [] (lv_args 0 as) σ with
      | some (r, σ', c, s) => if retOk (mRt me) r = true then some (r, σ', c, s) else none
      | none => none) else none
