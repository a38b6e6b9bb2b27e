/-! ===== what is kept of rows that belong together ===== -/
/-- a step as it may stand in a program -/
def okRec (act a b c : Int) : Prop := (0 ≤ act ∧ act ≤ 10) ∧ (0 ≤ a ∧ a ≤ 11) ∧ (1 ≤ act → act ≤ 6 → (0 ≤ b ∧ b ≤ 11) ∧ (0 ≤ c ∧ c ≤ 11)) ∧ (act = 8 → 0 ≤ b ∧ b ≤ 1) ∧ (act = 9 → 0 ≤ b ∧ b ≤ 7)
def gI (l : List Int32) (i : Nat) : Int := (l.getD i 0).toInt
/-- a program of the class: four rows of 60 -/
def okProg (t a b c : List Int32) : Prop := (t.length = 60 ∧ a.length = 60 ∧ b.length = 60 ∧ c.length = 60) ∧ ∀ i, i < 60 → okRec (gI t i) (gI a i) (gI b i) (gI c i)
/-- the model's row: both programs; the faults told; a lane that is in -/
def okSteps (l : List Int32) : Prop := l.length = 910 ∧ ∀ i, i < 120 → okRec (gI l (200 + 4 * i)) (gI l (201 + 4 * i)) (gI l (202 + 4 * i)) (gI l (203 + 4 * i))
def okHarm (l : List Int32) : Prop := ∀ i, i < 8 → gI l (792 + 5 * i) < 2 → 0 ≤ gI l (795 + 5 * i) ∧ gI l (795 + 5 * i) ≤ 11
def okIn (l : List Int32) : Prop := gI l 42 ≠ 0 ∨ gI l 82 ≠ 0 ∨ gI l 122 ≠ 0 ∨ gI l 162 ≠ 0
def PPk (k : Nat) (ls : List (List Int32)) : Prop := match k, ls with
  | 0, [t, a, b, c] => okProg t a b c
  | 1, [l] => okSteps l
  | 2, [l] => okHarm l
  | 3, [l] => okIn l
  | _, _ => False
theorem gI_ne {l : List Int32} {i j : Nat} {v : Int32} (h : i ≠ j) : gI (l.set i v) j = gI l j := by
  unfold gI
  rw [List.getD_eq_getElem?_getD, List.getD_eq_getElem?_getD, List.getElem?_set_ne h]
theorem fpk : FPok PPk := by
  intro k a b l i v h h1 h2 hp
  unfold fpOut at h
  split at h
  · obtain ⟨p1, p2⟩ := (hp : okSteps l)
    refine (show okSteps _ from ⟨by rw [List.length_set]; exact p1, fun j hj => ?_⟩)
    have hout : i < 200 ∨ 680 ≤ i := by
      cases h3 : Nat.blt b 200 with
      | true => have := blt_iff.mp h3; omega
      | false => rw [h3] at h; have := Nat.le_of_ble_eq_true h; omega
    rw [gI_ne (by omega), gI_ne (by omega), gI_ne (by omega), gI_ne (by omega)]
    exact p2 j hj
  · have hp' : okHarm l := hp
    refine (show okHarm _ from fun j hj => ?_)
    have hout : i < 792 ∨ 832 ≤ i := by
      cases h3 : Nat.blt b 792 with
      | true => have := blt_iff.mp h3; omega
      | false => rw [h3] at h; have := Nat.le_of_ble_eq_true h; omega
    rw [gI_ne (by omega), gI_ne (by omega)]
    exact hp' j hj
  · have hp' : okIn l := hp
    have hout : i ≠ 42 ∧ i ≠ 82 ∧ i ≠ 122 ∧ i ≠ 162 := by
      cases h3 : Nat.blt b 42 with
      | true => have := blt_iff.mp h3; omega
      | false =>
        rw [h3] at h
        simp only [cond_false] at h
        cases h4 : (bif Nat.ble 43 a then Nat.blt b 82 else false) with
        | true => obtain ⟨q1, q2⟩ := cand h4; have := Nat.le_of_ble_eq_true q1; have := blt_iff.mp q2; omega
        | false =>
          rw [h4] at h
          simp only [cond_false] at h
          cases h5 : (bif Nat.ble 83 a then Nat.blt b 122 else false) with
          | true => obtain ⟨q1, q2⟩ := cand h5; have := Nat.le_of_ble_eq_true q1; have := blt_iff.mp q2; omega
          | false =>
            rw [h5] at h
            simp only [cond_false] at h
            cases h6 : (bif Nat.ble 123 a then Nat.blt b 162 else false) with
            | true => obtain ⟨q1, q2⟩ := cand h6; have := Nat.le_of_ble_eq_true q1; have := blt_iff.mp q2; omega
            | false => rw [h6] at h; have := Nat.le_of_ble_eq_true h; omega
    refine (show okIn _ from ?_)
    unfold okIn
    rw [gI_ne hout.1, gI_ne hout.2.1, gI_ne hout.2.2.1, gI_ne hout.2.2.2]
    exact hp'
  · cases h
