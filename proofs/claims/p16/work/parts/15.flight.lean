/-! ===== the flight: what words of numbers say ===== -/
/-- operations of the machine, on numbers -/
noncomputable def valZ (op x y : Int) : Int := match op with
  | .ofNat 1 => Int.bmod x 4294967296
  | .ofNat 2 => Int.bmod x 18446744073709551616
  | .ofNat 3 => (Int32.ofInt x * Int32.ofInt y).toInt
  | .ofNat 4 => (Int64.ofInt x * Int64.ofInt y).toInt
  | .ofNat 5 => (Int32.ofInt x / Int32.ofInt y).toInt
  | .ofNat 6 => (Int32.ofInt x - Int32.ofInt x / Int32.ofInt y * Int32.ofInt y).toInt
  | .ofNat 7 => (Int32.ofInt x &&& Int32.ofInt y).toInt
  | .ofNat 8 => (Int32.ofInt x ||| Int32.ofInt y).toInt
  | .ofNat 9 => (Int32.ofInt x ^^^ Int32.ofInt y).toInt
  | .ofNat 10 => (Int32.ofInt x <<< (Int32.ofInt y &&& 31)).toInt
  | .ofNat 11 => (Int32.ofInt x >>> (Int32.ofInt y &&& 31)).toInt
  | .ofNat 12 => (((Int32.ofInt x).toUInt32 >>> ((Int32.ofInt y).toUInt32 &&& Int32.toUInt32 31)).toInt32).toInt
  | .ofNat 13 => (Int64.ofInt x / Int64.ofInt y).toInt
  | _ => 0
noncomputable def w200 (op x y r : Int) : Prop := r = valZ op x y
noncomputable def w201 (X k v : Int) : Prop := v = gX X k
noncomputable def w202 (X k v Y : Int) : Prop := Y = uX X k v ∧ 0 ≤ Y ∧ 0 ≤ X
/-- a step of a lane: what is new, whether it did not fail, where it goes on -/
noncomputable def doF (P at_ C l V A S B : Int) : Int × Int × Int × Int × Int :=
  let a := gX P (1 + 4 * at_); let b := gX P (2 + 4 * at_); let c := gX P (3 + 4 * at_); let act := gX P (4 * at_)
  let cl : Int → Int := fun i => gX C (12 * l + i)
  let put : Int → Int × Int × Int × Int × Int := fun v => (uX C (12 * l + a) v, S, B, 1, 1 + at_)
  if act = 0 then put b else if act = 1 then put (valZ 1 (cl b + cl c) 0) else if act = 2 then put (valZ 1 (cl b + -1 * cl c) 0) else if act = 3 then put (valZ 3 (cl b) (cl c)) else if act = 4 then (if cl c = 0 then (C, S, B, 0, 0) else put (valZ 5 (cl b) (cl c))) else if act = 5 then put (if cl b ≤ cl c then cl b else cl c) else if act = 6 then put (if cl b ≤ cl c then cl c else cl b) else if act = 7 then (C, S, B, 1, if 1 ≤ cl a then 1 + at_ + b else 1 + at_) else if act = 8 then put (gX V b) else if act = 9 then (if gX A (1 + 3 * l) = 0 then (C, uX S (4 * b + l) (cl a), uX B (4 * b + l) 1, 1, 1 + at_) else (C, S, B, 1, 1 + at_)) else (C, S, B, 1, if 1 ≤ cl a then at_ - b else 1 + at_)
noncomputable def w210 (P at_ C l V A S B C' S' B' f t : Int) : Prop := doF P at_ C l V A S B = (C', S', B', f, t)
/-- bits of the class's eight masks -/
noncomputable def bt (m l : Nat) : Int := if m.testBit l then 1 else 0
noncomputable def w211 (S B : Int) : Prop := (0 ≤ S ∧ 0 ≤ B) ∧ (∀ k : Int, 8 ≤ k → gX S k = 0) ∧ (∀ k : Int, 32 ≤ k → gX B k = 0) ∧ ∀ b : Int, 0 ≤ b → b ≤ 7 → ∃ m : Nat, gX S b = m ∧ m < 16 ∧ ∀ l : Nat, l < 4 → gX B (4 * b + l) = bt m l
/-- of the model's four -/
noncomputable def w212 (H B : Int) : Prop := (0 ≤ H ∧ 0 ≤ B) ∧ (∀ k : Int, 4 ≤ k → gX H k = 0) ∧ (∀ k : Int, 32 ≤ k → gX B k = 0) ∧ ∀ l : Int, 0 ≤ l → l ≤ 3 → ∃ m : Nat, gX H l = m ∧ m < 256 ∧ ∀ b : Nat, b < 8 → gX B (4 * b + l) = bt m b
noncomputable def w213 (A a0 m0 s0 a1 m1 s1 a2 m2 s2 a3 m3 s3 : Int) : Prop := 0 ≤ A ∧ gX A 0 = a0 ∧ gX A 1 = m0 ∧ gX A 2 = s0 ∧ gX A 3 = a1 ∧ gX A 4 = m1 ∧ gX A 5 = s1 ∧ gX A 6 = a2 ∧ gX A 7 = m2 ∧ gX A 8 = s2 ∧ gX A 9 = a3 ∧ gX A 10 = m3 ∧ gX A 11 = s3
/-- the steps are steps -/
noncomputable def w216 (P n : Int) : Prop := ∀ i : Int, 0 ≤ i → i < n → (gX P (4 * i) = 7 ∨ gX P (4 * i) = 10) → 1 ≤ gX P (2 + 4 * i) ∧ gX P (2 + 4 * i) ≤ 20
/-- what no lane has said is 0 -/
noncomputable def w222 (S B : Int) : Prop := (0 ≤ S ∧ 0 ≤ B) ∧ (∀ k : Int, 32 ≤ k → gX S k = 0) ∧ (∀ k : Int, 32 ≤ k → gX B k = 0) ∧ ∀ k : Int, 0 ≤ k → k ≤ 31 → gX B k = 0 → gX S k = 0
/-- 0 ahead of k, as it was from there on -/
noncomputable def w223 (X0 k X : Int) : Prop := 0 ≤ k ∧ (0 ≤ X0 → 0 ≤ X) ∧ (∀ j : Int, 0 ≤ j → j < k → gX X j = 0) ∧ ∀ j : Int, k ≤ j → gX X j = gX X0 j
noncomputable def w224 (R : Int) : Prop := 0 ≤ R ∧ ∀ k : Int, 8 ≤ k → gX R k = 0
/-- what was said is gone, lane by lane -/
noncomputable def w225 (S0 l w S : Int) : Prop := (0 ≤ l ∧ 0 ≤ w ∧ w ≤ 8) ∧ (0 ≤ S0 → 0 ≤ S) ∧ (∀ k : Int, 32 ≤ k → gX S k = gX S0 k) ∧ ∀ a b : Int, 0 ≤ a → a ≤ 3 → 0 ≤ b → b ≤ 7 → gX S (4 * b + a) = if a < l ∨ (a = l ∧ b < w) then 0 else gX S0 (4 * b + a)
noncomputable def w232 (X0 w j X : Int) : Prop := 0 ≤ w ∧ 0 ≤ j ∧ w223 X0 (4 * w + j) X
abbrev G4 : Type := Int × Int × Int × Int
/-- so many steps of a part, from a place on, none that fails -/
noncomputable def gpN (P n fr to l V A : Int) : Nat → G4 → Option G4
  | 0, s => some s
  | k + 1, s => match gpN P n fr to l V A k s with
    | some (C, S, B, at_) => if fr ≤ at_ ∧ at_ < to ∧ at_ < n then (match doF P at_ C l V A S B with
      | (C', S', B', f, a') => if f = 1 then some (C', S', B', a') else none) else none
    | none => none
/-- a part's run in its ticks: 1: it came to its end -/
noncomputable def gpRun (P n fr to l V A : Int) : Nat → G4 → G4
  | 0, (C, S, B, at_) => (C, S, B, if fr ≤ at_ ∧ at_ < to ∧ at_ < n then 0 else 1)
  | k + 1, (C, S, B, at_) => if fr ≤ at_ ∧ at_ < to ∧ at_ < n then (match doF P at_ C l V A S B with
    | (C', S', B', f, a') => if f = 1 then gpRun P n fr to l V A k (C', S', B', a') else (C, S, B, 0)) else (C, S, B, 1)
noncomputable def gpF (P n XP pt tk l V A C S B : Int) : G4 := gpRun P n (gX XP (2 * pt)) (gX XP (1 + 2 * pt)) l V A tk.toNat (C, S, B, gX XP (2 * pt))
noncomputable def w214 (P n XP pt fr to l V A C0 S0 B0 t C Q B at_ : Int) : Prop := fr = gX XP (2 * pt) ∧ to = gX XP (1 + 2 * pt) ∧ ∃ T : Nat, t = T ∧ gpN P n fr to l V A T (C0, S0, B0, fr) = some (C, Q, B, at_)
noncomputable def w215 (P n XP pt tk l V A C0 S0 B0 C Q B ok : Int) : Prop := gpF P n XP pt tk l V A C0 S0 B0 = (C, Q, B, ok)
/-- slots: part, first tick, ticks -/
abbrev SLT : Type := Int × Int × Int
noncomputable def slotX (X : Int) (j : Nat) : SLT := (gX X (3 * j), gX X (1 + 3 * j), gX X (2 + 3 * j))
noncomputable def slL (X : Int) (m : Nat) : List SLT := (List.range m).map (slotX X)
noncomputable def insS4 (s : SLT) : List SLT → List SLT
  | [] => [s]
  | a :: r => if s.2.1 < a.2.1 then s :: a :: r else a :: insS4 s r
noncomputable def isoS (L : List SLT) : List SLT := L.foldl (fun l s => insS4 s l) []
noncomputable def runS (P n XP fw l V A : Int) (s : G4) (q : SLT) : G4 := match s with
  | (C, S, B, f) => match gpF P n XP q.1 (q.2.2 - fw) l V A C S B with
    | (C', S', B', ok) => (C', S', B', if ok = 1 then f else f + 1)
noncomputable def runL (P n XP fw l V A : Int) (L : List SLT) (s : G4) : G4 := L.foldl (runS P n XP fw l V A) s
noncomputable def fwF (A l : Int) : Int := if 1 ≤ gX A (2 + 3 * l) then 1 else 0
noncomputable def w226 (P n XP Xc ns fw l V A IN C0 Q0 B0 f0 i C Q B f : Int) : Prop := fw = fwF A l ∧ gX IN l = 1 ∧ 0 ≤ l ∧ 0 ≤ f0 ∧ f0 ≤ 8 * l ∧ ∃ I : Nat, i = I ∧ runL P n XP fw l V A (slL Xc I) (C0, Q0, B0, f0) = (C, Q, B, f)
noncomputable def rlnN (P n XP Xc : Int) (m : Nat) (IN V A : Int) : Nat → G4 → G4
  | 0, s => s
  | l + 1, s => if gX IN l = 1 then runL P n XP (fwF A l) l V A (slL Xc m) (rlnN P n XP Xc m IN V A l s) else rlnN P n XP Xc m IN V A l s
noncomputable def w227 (P n XP Xc ns N IN V A C0 l C Q B f : Int) : Prop := ∃ m L : Nat, ns = m ∧ m ≤ 8 ∧ l = L ∧ rlnN P n XP Xc m IN V A L (C0, 0, 0, 0) = (C, Q, B, f)
noncomputable def w228 (P n XP Xc ns N IN V A C0 C Q B f : Int) : Prop := w227 P n XP Xc ns N IN V A C0 N C Q B f
/-- the slots that begin at a tick, in the order that they were told -/
noncomputable def atT (L : List SLT) (t : Int) : List SLT := L.filter (fun q => decide (q.2.1 = t))
noncomputable def tkL (L : List SLT) (t : Nat) : List SLT := (List.range t).flatMap (fun (u : Nat) => atT L (u : Int))
noncomputable def w229 (P n XP XS ns l V A IN C0 Q0 B0 f0 t k C Q B f : Int) : Prop := gX IN l = 1 ∧ 0 ≤ l ∧ 0 ≤ f0 ∧ f0 ≤ 8 * l ∧ ∃ m T K : Nat, ns = m ∧ m ≤ 8 ∧ t = T ∧ k = K ∧ K ≤ m ∧ runL P n XP (fwF A l) l V A (tkL (slL XS m) T ++ atT (slL XS K) T) (C0, Q0, B0, f0) = (C, Q, B, f)
/-- a mask of lanes and its bits -/
noncomputable def w230 (i IN : Int) : Prop := 0 ≤ IN ∧ (∀ k : Int, 4 ≤ k → gX IN k = 0) ∧ ∃ m : Nat, i = m ∧ m < 16 ∧ ∀ l : Nat, l < 4 → gX IN l = bt m l
noncomputable def slV (q : SLT) : Prop := (0 ≤ q.1 ∧ q.1 ≤ 5) ∧ (0 ≤ q.2.1 ∧ q.2.1 ≤ 39) ∧ 1 ≤ q.2.2 ∧ q.2.2 ≤ 40
noncomputable def slD (p q : SLT) : Prop := p.2.1 + p.2.2 ≤ q.2.1 ∨ q.2.1 + q.2.2 ≤ p.2.1
/-- the slots, as told and in order: each is one, none share a tick -/
noncomputable def w231 (ns XS Xc : Int) : Prop := ∃ m : Nat, ns = m ∧ m ≤ 8 ∧ (∀ q ∈ slL XS m, slV q) ∧ (slL XS m).Pairwise slD ∧ slL Xc m = isoS (slL XS m)
noncomputable def wSm (k : Nat) (ns : List Int) : Prop := bif Nat.blt k 220 then (match k, ns with
  | 200, [a, b, c, d] => w200 a b c d
  | 201, [a, b, c] => w201 a b c
  | 202, [a, b, c, d] => w202 a b c d
  | 210, [a, b, c, d, e, f, g, h, i, j, k, l, m] => w210 a b c d e f g h i j k l m
  | 211, [a, b] => w211 a b
  | 212, [a, b] => w212 a b
  | 213, [a, b, c, d, e, f, g, h, i, j, k, l, m] => w213 a b c d e f g h i j k l m
  | 214, [a, b, c, d, e, f, g, h, i, j, k, l, m, n, o, p, q] => w214 a b c d e f g h i j k l m n o p q
  | 215, [a, b, c, d, e, f, g, h, i, j, k, l, m, n, o] => w215 a b c d e f g h i j k l m n o
  | 216, [a, b] => w216 a b
  | _, _ => False) else (match k, ns with
  | 222, [a, b] => w222 a b
  | 223, [a, b, c] => w223 a b c
  | 224, [a] => w224 a
  | 225, [a, b, c, d] => w225 a b c d
  | 226, [a, b, c, d, e, f, g, h, i, j, k, l, m, n, o, p, q, r, s] => w226 a b c d e f g h i j k l m n o p q r s
  | 227, [a, b, c, d, e, f, g, h, i, j, k, l, m, n, o] => w227 a b c d e f g h i j k l m n o
  | 228, [a, b, c, d, e, f, g, h, i, j, k, l, m, n] => w228 a b c d e f g h i j k l m n
  | 229, [a, b, c, d, e, f, g, h, i, j, k, l, m, n, o, p, q, r, s] => w229 a b c d e f g h i j k l m n o p q r s
  | 230, [a, b] => w230 a b
  | 231, [a, b, c] => w231 a b c
  | 232, [a, b, c, d] => w232 a b c d
  | _, _ => False)
/-- contexts (300 to 399) say nothing: they hold numbers for the rules -/
noncomputable def isCx (k : Nat) : Bool := bif Nat.ble 300 k then Nat.blt k 400 else false
noncomputable def wSem (k : Nat) (ns : List Int) : Prop := bif isCx k then True else wSm k ns
