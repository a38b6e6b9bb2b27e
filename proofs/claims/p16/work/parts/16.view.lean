/-! ===== views: what rows hold, as one number each ===== -/
noncomputable def gI (l : List Int32) (i : Nat) : Int := (l.getD i 0).toInt
/-- a row of ints, or of longs as two ints each: its i-th number, its length -/
noncomputable def rvG (lg : Bool) (l : List Int32) (i : Nat) : Int := bif lg then gI l (2 * i) * 4294967296 + (gI l (2 * i + 1) + 2147483648) else gI l i
noncomputable def rvN (lg : Bool) (l : List Int32) : Nat := bif lg then l.length / 2 else l.length
/-- a piece: which row, its first place, the stride; the number's first place, its stride; how many (none: as told) -/
abbrev VP : Type := Nat × Nat × Nat × Nat × Nat × Option Nat
noncomputable def vwT1 : List (List VP) := [[(0, 0, 1, 0, 1, some 12), (1, 0, 1, 12, 1, some 12), (2, 0, 1, 24, 1, some 12), (3, 0, 1, 36, 1, some 12)],
  [(0, 0, 1, 0, 2, some 6), (1, 0, 1, 1, 2, some 6)],
  [(0, 0, 1, 0, 3, none), (1, 0, 1, 1, 3, none), (2, 0, 1, 2, 3, none)],
  [(0, 0, 1, 0, 2, some 8), (1, 0, 1, 1, 2, some 8)],
  [(0, 0, 1, 0, 4, none), (1, 0, 1, 1, 4, none), (2, 0, 1, 2, 4, none), (3, 0, 1, 3, 4, none)],
  [(0, 0, 1, 0, 2, some 4), (1, 0, 1, 1, 2, some 4)],
  [(0, 0, 1, 0, 5, none), (1, 0, 1, 1, 5, none), (2, 0, 1, 2, 5, none), (3, 0, 1, 3, 5, none), (4, 0, 1, 4, 5, none)],
  [(0, 0, 1, 0, 1, none)],
  [(0, 0, 1, 0, 4, none), (1, 0, 1, 1, 4, none), (2, 0, 1, 2, 4, none), (3, 0, 1, 3, 4, none)],
  [],
  [(0, 0, 1, 0, 1, some 32)],
  [(0, 0, 1, 0, 1, some 8)],
  [(0, 0, 1, 0, 1, some 8)],
  [(0, 0, 1, 0, 1, some 2)],
  [(0, 0, 1, 0, 1, some 6)],
  [(0, 0, 1, 0, 1, none)],
  [(0, 0, 1, 0, 1, none)]]
noncomputable def vwT2 : List (List VP) := [[(0, 30, 1, 0, 1, some 12), (0, 70, 1, 12, 1, some 12), (0, 110, 1, 24, 1, some 12), (0, 150, 1, 36, 1, some 12)],
  [(0, 680, 1, 0, 1, some 12)],
  [(0, 692, 3, 0, 3, none), (0, 693, 3, 1, 3, none), (0, 694, 3, 2, 3, none)],
  [(0, 716, 4, 0, 2, some 8), (0, 717, 4, 1, 2, some 8)],
  [(0, 748, 6, 0, 4, none), (0, 749, 6, 1, 4, none), (0, 750, 6, 2, 4, none), (0, 751, 6, 3, 4, none)],
  [(0, 784, 1, 0, 1, some 8)],
  [(0, 792, 5, 0, 5, none), (0, 793, 5, 1, 5, none), (0, 794, 5, 2, 5, none), (0, 795, 5, 3, 5, none), (0, 796, 5, 4, 5, none)],
  [(0, 892, 1, 0, 1, none)],
  [(0, 200, 4, 0, 4, none), (0, 201, 4, 1, 4, none), (0, 202, 4, 2, 4, none), (0, 203, 4, 3, 4, none)],
  [(0, 440, 4, 0, 4, none), (0, 441, 4, 1, 4, none), (0, 442, 4, 2, 4, none), (0, 443, 4, 3, 4, none)],
  [(0, 47, 1, 0, 4, some 8), (0, 87, 1, 1, 4, some 8), (0, 127, 1, 2, 4, some 8), (0, 167, 1, 3, 4, some 8)],
  [(0, 55, 40, 0, 1, some 4)],
  [(0, 718, 4, 0, 1, some 8)],
  [(0, 21, 1, 0, 1, some 2)],
  [(0, 753, 6, 0, 1, some 6)],
  [(0, 752, 6, 0, 1, some 6)],
  [(0, 42, 40, 0, 1, some 4)],
  [(0, 719, 4, 0, 1, some 8)],
  [(0, 44, 1, 0, 1, some 3), (0, 84, 1, 3, 1, some 3), (0, 124, 1, 6, 1, some 3), (0, 164, 1, 9, 1, some 3)],
  [(0, 43, 40, 0, 1, some 4)],
  [(0, 832, 1, 0, 1, none)],
  [(0, 0, 1, 0, 2, none), (1, 0, 1, 1, 2, none)],
  [(0, 0, 1, 0, 1, none)]]
noncomputable def vwT3 : List (List VP) := [[(0, 0, 1, 0, 1, some 6)],
  [(0, 0, 1, 0, 1, some 8)],
  [(0, 0, 1, 0, 1, none)],
  [(0, 0, 1, 0, 1, none)]]
noncomputable def nthV : List (List VP) → Nat → List VP
  | [], _ => []
  | a :: _, 0 => a
  | _ :: r, i + 1 => nthV r i
noncomputable def vwT (k : Nat) : List VP := bif Nat.blt k 120 then nthV vwT1 (Nat.sub k 100) else bif Nat.blt k 150 then nthV vwT2 (Nat.sub k 120) else nthV vwT3 (Nat.sub k 150)
/-- of long rows -/
noncomputable def isLg (k : Nat) : Bool := bif Nat.ble 150 k then Nat.ble k 159 else false
theorem isLg_r {k : Nat} (h : isLg k = true) : 150 ≤ k ∧ k ≤ 159 := by
  unfold isLg at h
  cases h1 : Nat.ble 150 k with
  | false => rw [h1] at h; cases h
  | true =>
    rw [h1] at h
    exact ⟨Nat.le_of_ble_eq_true h1, Nat.le_of_ble_eq_true h⟩
theorem isLg_hi {k : Nat} (h : 159 < k) : isLg k = false := by
  cases z : isLg k with
  | false => rfl
  | true => have := isLg_r z; omega
/-- of the model's row: a view has a place where it begins -/
noncomputable def isMd (k : Nat) : Bool := bif Nat.ble 120 k then Nat.ble k 140 else false
noncomputable def cnV (p : VP) (m : Nat) : Nat := match p.2.2.2.2.2 with
  | some c => c
  | none => m
noncomputable def pcOk (lg : Bool) (l : List Int32) (o X : Int) (m : Nat) (p : VP) : Prop := ∀ j : Nat, j < cnV p m → ∃ i : Nat, (i : Int) = o + p.2.1 + p.2.2.1 * j ∧ i < rvN lg l ∧ rvG lg l i = gX X (p.2.2.2.1 + p.2.2.2.2.1 * j)
noncomputable def vOk (k : Nat) (ls : List (List Int32)) (o X n : Int) : Prop := 0 ≤ X ∧ ∃ m : Nat, n = m ∧ ∀ p ∈ vwT k, pcOk (isLg k) (ls.getD p.1 []) o X m p
/-- one piece alone: of view kd, of row r -/
noncomputable def p1Ok (l : List Int32) (kd r X n : Int) : Prop := 0 ≤ X ∧ ∃ (K R m : Nat), kd = K ∧ r = R ∧ n = m ∧ ∀ p ∈ vwT K, p.1 = R → pcOk (isLg K) l 0 X m p
noncomputable def PPv (k : Nat) (ls : List (List Int32)) (ns : List Int) : Prop := match ns with
  | [X] => isMd k = false ∧ vOk k ls 0 X 0
  | [o, X] => (isMd k = true ∧ vOk k ls o X 0) ∨ (isMd k = false ∧ vOk k ls 0 o X)
  | [o, X, n] => isMd k = true ∧ vOk k ls o X n
  | [kd, r, X, n] => k = 99 ∧ ∃ l, ls = [l] ∧ p1Ok l kd r X n
  | _ => False
-- no two of a view's places have the same place in its number
noncomputable def djP (p q : VP) : Bool := bif (bif Nat.beq p.2.2.2.2.1 q.2.2.2.2.1 then (bif Nat.beq (Nat.mod p.2.2.2.1 p.2.2.2.2.1) (Nat.mod q.2.2.2.1 p.2.2.2.2.1) then false else true) else false) then true else match p.2.2.2.2.2, q.2.2.2.2.2 with
  | some c, some d => bif Nat.ble (p.2.2.2.1 + p.2.2.2.2.1 * c) (q.2.2.2.1 + p.2.2.2.2.1 - 1) then Nat.blt 0 c else bif Nat.ble (q.2.2.2.1 + q.2.2.2.2.1 * d) (p.2.2.2.1 + q.2.2.2.2.1 - 1) then Nat.blt 0 d else false
  | _, _ => false
noncomputable def djL : List VP → Bool
  | [] => true
  | p :: r => bif Nat.blt 0 p.2.2.2.2.1 then (bif r.all (djP p) then djL r else false) else false
theorem djP_ok {p q : VP} (h : djP p q = true) (ht : 0 < p.2.2.2.2.1) (ht' : 0 < q.2.2.2.2.1) {m j i : Nat} (hj : j < cnV p m) (hi : i < cnV q m) : p.2.2.2.1 + p.2.2.2.2.1 * j ≠ q.2.2.2.1 + q.2.2.2.2.1 * i := by
  obtain ⟨pr, pi, ps, pk, pt, pc⟩ := p
  obtain ⟨qr, qi, qs, qk, qt, qc⟩ := q
  intro e
  unfold djP at h
  try dsimp only at h e ht ht'
  cases h1 : (bif Nat.beq pt qt then (bif Nat.beq (Nat.mod pk pt) (Nat.mod qk pt) then false else true) else false) with
  | true =>
    cases h2 : Nat.beq pt qt with
    | false => rw [h2] at h1; cases h1
    | true =>
      rw [h2, cond_true] at h1
      have e1 := Nat.eq_of_beq_eq_true h2
      cases h3 : Nat.beq (Nat.mod pk pt) (Nat.mod qk pt) with
      | true => rw [h3] at h1; cases h1
      | false =>
        have e2 := Nat.ne_of_beq_eq_false h3
        refine e2 ?_
        have a1 : (pk + pt * j) % pt = pk % pt := Nat.add_mul_mod_self_left pk pt j
        have a2 : (qk + pt * i) % pt = qk % pt := Nat.add_mul_mod_self_left qk pt i
        rw [← e1] at e
        show pk % pt = qk % pt
        rw [← a1, ← a2, e]
  | false =>
    rw [h1, cond_false] at h
    cases pc with
    | none => cases h
    | some c =>
      cases qc with
      | none => cases h
      | some d =>
        have hj' : j < c := hj
        have hi' : i < d := hi
        try dsimp only at h
        have m1 : pt * (j + 1) ≤ pt * c := Nat.mul_le_mul_left _ hj'
        have m2 : qt * (i + 1) ≤ qt * d := Nat.mul_le_mul_left _ hi'
        rw [Nat.mul_add, Nat.mul_one] at m1 m2
        cases h2 : Nat.ble (pk + pt * c) (qk + pt - 1) with
        | true =>
          have := Nat.le_of_ble_eq_true h2
          omega
        | false =>
          rw [h2, cond_false] at h
          cases h3 : Nat.ble (qk + qt * d) (pk + qt - 1) with
          | true =>
            have := Nat.le_of_ble_eq_true h3
            omega
          | false => rw [h3] at h; cases h
theorem djL_ok : ∀ {L : List VP}, djL L = true → ∀ (a b : Nat) (p q : VP), L[a]? = some p → L[b]? = some q → ∀ {m j i : Nat}, j < cnV p m → i < cnV q m → p.2.2.2.1 + p.2.2.2.2.1 * j = q.2.2.2.1 + q.2.2.2.2.1 * i → a = b ∧ j = i := by
  intro L
  induction L with
  | nil => intro _ a b p q h; cases h
  | cons x r ih =>
    intro h a b p q ha hb m j i hj hi e
    unfold djL at h
    cases h1 : Nat.blt 0 x.2.2.2.2.1 with
    | false => rw [h1] at h; cases h
    | true =>
      rw [h1, cond_true] at h
      have t1 : 0 < x.2.2.2.2.1 := Nat.le_of_ble_eq_true h1
      cases h2 : r.all (djP x) with
      | false => rw [h2] at h; cases h
      | true =>
        rw [h2, cond_true] at h
        have tr : ∀ y ∈ r, djP x y = true := List.all_eq_true.mp h2
        have pos : ∀ {L : List VP}, djL L = true → ∀ y ∈ L, 0 < y.2.2.2.2.1 := by
          intro L
          induction L with
          | nil => intro _ y hy; cases hy
          | cons z s ihs =>
            intro hL y hy
            unfold djL at hL
            cases g1 : Nat.blt 0 z.2.2.2.2.1 with
            | false => rw [g1] at hL; cases hL
            | true =>
              rw [g1, cond_true] at hL
              cases g2 : s.all (djP z) with
              | false => rw [g2] at hL; cases hL
              | true =>
                rw [g2, cond_true] at hL
                rcases List.mem_cons.mp hy with rfl | hy
                · exact Nat.le_of_ble_eq_true g1
                · exact ihs hL y hy
        match a, b, ha, hb with
        | 0, 0, ha, hb =>
          cases ha
          cases hb
          refine ⟨rfl, ?_⟩
          have : x.2.2.2.2.1 * j = x.2.2.2.2.1 * i := by omega
          exact Nat.eq_of_mul_eq_mul_left t1 this
        | 0, b + 1, ha, hb =>
          cases ha
          have hq : q ∈ r := List.mem_of_getElem? hb
          exact absurd e (djP_ok (tr q hq) t1 (pos h q hq) hj hi)
        | a + 1, 0, ha, hb =>
          cases hb
          have hq : p ∈ r := List.mem_of_getElem? ha
          exact absurd e.symm (djP_ok (tr p hq) t1 (pos h p hq) hi hj)
        | a + 1, b + 1, ha, hb =>
          obtain ⟨e1, e2⟩ := ih h a b p q ha hb hj hi e
          exact ⟨by omega, e2⟩
theorem nthV_mem : ∀ (L : List (List VP)) (i : Nat), nthV L i = [] ∨ nthV L i ∈ L
  | [], _ => Or.inl rfl
  | a :: r, 0 => Or.inr List.mem_cons_self
  | a :: r, i + 1 => (nthV_mem r i).imp id (List.mem_cons_of_mem a)
theorem dj_T : (vwT1 ++ (vwT2 ++ vwT3)).all djL = true := by decide +kernel
theorem vwT_dj (k : Nat) : djL (vwT k) = true := by
  have key : ∀ (L : List (List VP)) (i : Nat), (∀ x ∈ L, djL x = true) → djL (nthV L i) = true := fun L i h => by
    rcases nthV_mem L i with e | e
    · rw [e]; rfl
    · exact h _ e
  have hall := List.all_eq_true.mp dj_T
  unfold vwT
  cases Nat.blt k 120 with
  | true =>
    rw [cond_true]
    exact (show djL (nthV vwT1 (Nat.sub k 100)) = true from key vwT1 _ fun x hx => hall x (List.mem_append_left _ hx))
  | false =>
    cases Nat.blt k 150 with
    | true =>
      rw [cond_false, cond_true]
      exact (show djL (nthV vwT2 (Nat.sub k 120)) = true from key vwT2 _ fun x hx => hall x (List.mem_append_right vwT1 (List.mem_append_left _ hx)))
    | false =>
      rw [cond_false, cond_false]
      exact (show djL (nthV vwT3 (Nat.sub k 150)) = true from key vwT3 _ fun x hx => hall x (List.mem_append_right vwT1 (List.mem_append_right vwT2 hx)))
theorem sp_T : (vwT1 ++ (vwT2 ++ vwT3)).all (fun L => L.all (fun p => Nat.blt 0 p.2.2.1)) = true := by decide +kernel
theorem vwT_s (k : Nat) : ∀ p ∈ vwT k, 0 < p.2.2.1 := by
  have hall := List.all_eq_true.mp sp_T
  have key : ∀ (L : List (List VP)) (i : Nat), (∀ x ∈ L, x.all (fun p => Nat.blt 0 p.2.2.1) = true) → ∀ p ∈ nthV L i, 0 < p.2.2.1 := fun L i h p hp => by
    rcases nthV_mem L i with e | e
    · rw [e] at hp; cases hp
    · exact Nat.le_of_ble_eq_true (List.all_eq_true.mp (h _ e) p hp)
  unfold vwT
  cases Nat.blt k 120 with
  | true =>
    rw [cond_true]
    exact (show ∀ p ∈ nthV vwT1 (Nat.sub k 100), 0 < p.2.2.1 from key vwT1 _ fun x hx => hall x (List.mem_append_left _ hx))
  | false =>
    cases Nat.blt k 150 with
    | true =>
      rw [cond_false, cond_true]
      exact (show ∀ p ∈ nthV vwT2 (Nat.sub k 120), 0 < p.2.2.1 from key vwT2 _ fun x hx => hall x (List.mem_append_right vwT1 (List.mem_append_left _ hx)))
    | false =>
      rw [cond_false, cond_false]
      exact (show ∀ p ∈ nthV vwT3 (Nat.sub k 150), 0 < p.2.2.1 from key vwT3 _ fun x hx => hall x (List.mem_append_right vwT1 (List.mem_append_right vwT2 hx)))
