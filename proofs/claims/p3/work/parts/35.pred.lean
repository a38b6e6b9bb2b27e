/-! ===== what is kept of rows that belong together ===== -/
/-- a step as it may stand in a program -/
noncomputable def okRec (act a b c : Int) : Prop := (0 ≤ act ∧ act ≤ 10) ∧ (0 ≤ a ∧ a ≤ 11) ∧ (1 ≤ act → act ≤ 6 → (0 ≤ b ∧ b ≤ 11) ∧ (0 ≤ c ∧ c ≤ 11)) ∧ (act = 8 → 0 ≤ b ∧ b ≤ 1) ∧ (act = 9 → 0 ≤ b ∧ b ≤ 7)
noncomputable def gI (l : List Int32) (i : Nat) : Int := (l.getD i 0).toInt
/-- a program of the class: four rows of 60 -/
noncomputable def okProg (t a b c : List Int32) : Prop := (t.length = 60 ∧ a.length = 60 ∧ b.length = 60 ∧ c.length = 60) ∧ ∀ i, i < 60 → okRec (gI t i) (gI a i) (gI b i) (gI c i)
/-- the model's row: both programs; the faults told; a lane that is in -/
noncomputable def okSteps (l : List Int32) : Prop := l.length = 910 ∧ ∀ i, i < 120 → okRec (gI l (200 + 4 * i)) (gI l (201 + 4 * i)) (gI l (202 + 4 * i)) (gI l (203 + 4 * i))
noncomputable def okHarm (l : List Int32) : Prop := ∀ i, i < 8 → gI l (792 + 5 * i) < 2 → 0 ≤ gI l (795 + 5 * i) ∧ gI l (795 + 5 * i) ≤ 11
noncomputable def okIn (l : List Int32) : Prop := gI l 42 ≠ 0 ∨ gI l 82 ≠ 0 ∨ gI l 122 ≠ 0 ∨ gI l 162 ≠ 0
/-- but for one record -/
noncomputable def okProgB (q : Nat) (t a b c : List Int32) : Prop := (t.length = 60 ∧ a.length = 60 ∧ b.length = 60 ∧ c.length = 60) ∧ ∀ i, i < 60 → i ≠ q → okRec (gI t i) (gI a i) (gI b i) (gI c i)
noncomputable def okStepsB (q : Nat) (l : List Int32) : Prop := l.length = 910 ∧ ∀ i, i < 120 → i ≠ q → okRec (gI l (200 + 4 * i)) (gI l (201 + 4 * i)) (gI l (202 + 4 * i)) (gI l (203 + 4 * i))
noncomputable def okHarmB (q : Nat) (l : List Int32) : Prop := ∀ i, i < 8 → i ≠ q → gI l (792 + 5 * i) < 2 → 0 ≤ gI l (795 + 5 * i) ∧ gI l (795 + 5 * i) ≤ 11
noncomputable def PPo (k : Nat) (ls : List (List Int32)) : Prop := match k, ls with
  | 0, [t, a, b, c] => okProg t a b c
  | 1, [l] => okSteps l
  | 2, [l] => okHarm l
  | 3, [l] => okIn l
  | k, [t, a, b, c] => (1000 ≤ k ∧ k < 2000) ∧ okProgB (k - 1000) t a b c
  | k, [l] => (2000 ≤ k ∧ okStepsB (k - 2000) l) ∨ ((600 ≤ k ∧ k < 1000) ∧ okHarmB (k - 600) l)
  | _, _ => False
/-- the depth of the stack behind a code of signs: 0 and 1 lay a value, 2 and 3 turn one, 4 to 12 join two -/
noncomputable def cstep (d : Option Nat) (x : Int32) : Option Nat := match d with
  | none => none
  | some d => if x.toInt = 0 ∨ x.toInt = 1 then some (d + 1) else if x.toInt = 2 ∨ x.toInt = 3 then (if 1 ≤ d then some d else none) else if 4 ≤ x.toInt ∧ x.toInt ≤ 12 then (if 2 ≤ d then some (d - 1) else none) else none
noncomputable def codeD (l : List Int32) : Option Nat := l.foldl cstep (some 0)
/-- signs that wait: how many are open (13), how many join two (4 to 12); 2 and 3 turn one -/
noncomputable def sstep (d : Option (Nat × Nat)) (x : Int32) : Option (Nat × Nat) := match d with
  | none => none
  | some (o, b) => if x.toInt = 13 then some (o + 1, b) else if x.toInt = 2 ∨ x.toInt = 3 then some (o, b) else if 4 ≤ x.toInt ∧ x.toInt ≤ 12 then some (o, b + 1) else none
noncomputable def stkD (l : List Int32) : Option (Nat × Nat) := l.foldl sstep (some (0, 0))
noncomputable def okCode (l : List Int32) (s d : Int) : Prop := ∃ n m : Nat, s = n ∧ d = m ∧ n ≤ l.length ∧ codeD (l.take n) = some m
noncomputable def okStk (l : List Int32) (w o b : Int) : Prop := ∃ n x y : Nat, w = n ∧ o = x ∧ b = y ∧ n ≤ l.length ∧ stkD (l.take n) = some (x, y)
/-- 910 places of a longer row that are such a row of the model -/
noncomputable def okImg (l : List Int32) (off : Int) : Prop := ∃ n : Nat, off = n ∧ n + 910 ≤ l.length ∧ okSteps ((l.drop n).take 910) ∧ okHarm ((l.drop n).take 910)
/-- an element told -/
noncomputable def okEl (l : List Int32) (i v : Int) : Prop := ∃ n : Nat, i = n ∧ (l.getD n 0).toInt = v
/-- the seal of the first m steps, as a number without end: of the class's four rows, of a row from place o on -/
noncomputable def pC (t a b c : List Int32) : Nat → Int
  | 0 => 17
  | m + 1 => 923521 * pC t a b c m + 29791 * gI t m + 961 * gI a m + 31 * gI b m + gI c m
noncomputable def pR (l : List Int32) (o : Nat) : Nat → Int
  | 0 => 17
  | m + 1 => 923521 * pR l o m + 29791 * gI l (o + 4 * m) + 961 * gI l (o + 4 * m + 1) + 31 * gI l (o + 4 * m + 2) + gI l (o + 4 * m + 3)
noncomputable def okSlC (t a b c : List Int32) (n s : Int) : Prop := ∃ m : Nat, n = m ∧ m ≤ 60 ∧ (m ≤ t.length ∧ m ≤ a.length ∧ m ≤ b.length ∧ m ≤ c.length) ∧ s = pC t a b c m
noncomputable def okSlR (l : List Int32) (o n s : Int) : Prop := ∃ p m : Nat, o = p ∧ n = m ∧ m ≤ 60 ∧ p + 4 * m ≤ l.length ∧ s = pR l p m
/-- a number brought to 32 bits -/
noncomputable def okWr (x v : Int) : Prop := v = Int.bmod x 4294967296
/-- which of two programs flies (0 or 1): its steps and seal, those of the other -/
noncomputable def okLk (al x0 y0 x1 y1 n s m t : Int) : Prop := (al = 0 → n = x0 ∧ s = y0 ∧ m = x1 ∧ t = y1) ∧ (al = 1 → n = x1 ∧ s = y1 ∧ m = x0 ∧ t = y0)
/-- 1: a step that may stand in a program, 0: none -/
noncomputable def isF (act a b c : Int) : Int := if (0 ≤ act ∧ act ≤ 10) ∧ (0 ≤ a ∧ a ≤ 11) ∧ (act = 0 ∨ ((1 ≤ act ∧ act ≤ 6) ∧ (0 ≤ b ∧ b ≤ 11) ∧ (0 ≤ c ∧ c ≤ 11)) ∨ ((act = 7 ∨ act = 10) ∧ (1 ≤ b ∧ b ≤ 20)) ∨ (act = 8 ∧ (0 ≤ b ∧ b ≤ 1)) ∨ (act = 9 ∧ (0 ≤ b ∧ b ≤ 7))) then 1 else 0
/-- the ticks (bits) that slots take: of every s-th place of two rows -/
noncomputable def slF (x : List Int32) (b s i : Nat) : Int := gI x (b + s * i)
noncomputable def okOccG (x y : List Int32) (bx bY s : Nat) (n o : Int) : Prop := ∃ m w : Nat, n = m ∧ o = w ∧ m ≤ 8 ∧ (∀ i, i < m → (bx + s * i < x.length ∧ bY + s * i < y.length) ∧ 0 ≤ slF x bx s i ∧ 1 ≤ slF y bY s i) ∧ ∀ j : Nat, w.testBit j = true ↔ ∃ i, i < m ∧ slF x bx s i ≤ (j : Int) ∧ (j : Int) < slF x bx s i + slF y bY s i
/-- none of the first k takes a tick of f .. f + l - 1 -/
noncomputable def okNoG (x y : List Int32) (bx bY s : Nat) (k f l : Int) : Prop := ∃ m : Nat, k = m ∧ ∀ i, i < m → slF x bx s i + slF y bY s i ≤ f ∨ f + l ≤ slF x bx s i
/-- but for the one at place q: of n + 1 -/
noncomputable def okExG (x y : List Int32) (q n o : Int) : Prop := ∃ c m w : Nat, q = c ∧ n = m ∧ o = w ∧ c ≤ m ∧ m ≤ 7 ∧ (m < x.length ∧ m < y.length) ∧ (∀ i, i ≤ m → i ≠ c → 0 ≤ slF x 0 1 i ∧ 1 ≤ slF y 0 1 i) ∧ ∀ j : Nat, w.testBit j = true ↔ ∃ i, (i ≤ m ∧ i ≠ c) ∧ slF x 0 1 i ≤ (j : Int) ∧ (j : Int) < slF x 0 1 i + slF y 0 1 i
/-- 1: there is room, 0: there is none -/
noncomputable def isRoom (o f l : Int) : Prop := f + l ≤ 40 ∧ ∃ w : Nat, o = w ∧ ∀ j : Nat, f ≤ (j : Int) → (j : Int) < f + l → w.testBit j = false
noncomputable def okRoom (o f l r : Int) : Prop := (r = 1 ∧ isRoom o f l) ∨ (r = 0 ∧ ¬ isRoom o f l)
/-- the ticks with some more -/
noncomputable def okOr (o f l u : Int) : Prop := ∃ w v : Nat, o = w ∧ u = v ∧ ∀ j : Nat, v.testBit j = true ↔ (w.testBit j = true ∨ (f ≤ (j : Int) ∧ (j : Int) < f + l))
/-- 1: a fault that may be told, 0: none -/
noncomputable def isHF (so fr wh ce bi la se : Int) : Int := if (0 ≤ so ∧ so ≤ 4) ∧ (0 ≤ fr ∧ fr ≤ 9999) ∧ ((so = 2 ∧ 0 ≤ wh ∧ wh < se) ∨ (so ≠ 2 ∧ 0 ≤ wh ∧ wh < la)) ∧ (so < 2 → (0 ≤ ce ∧ ce ≤ 11) ∧ (0 ≤ bi ∧ bi ≤ 31)) then 1 else 0
/-- kinds with numbers -/
noncomputable def PPn (k : Nat) (ls : List (List Int32)) (ns : List Int) : Prop := match ls, ns with
  | [l], [off] => k = 6 ∧ okImg l off
  | [l], [s, d] => (k = 4 ∧ okCode l s d) ∨ (k = 7 ∧ okEl l s d)
  | [l], [w, o, b] => (k = 5 ∧ okStk l w o b) ∨ (k = 9 ∧ okSlR l w o b) ∨ (k = 17 ∧ ∃ c : Nat, w = c ∧ okOccG l l (c + 1) (c + 2) 3 o b)
  | [l], [w, q, f, g] => k = 20 ∧ ∃ c : Nat, w = c ∧ okNoG l l (c + 1) (c + 2) 3 q f g
  | [x, y], [n, o] => k = 16 ∧ okOccG x y 0 0 1 n o
  | [x, y], [q, f, g] => (k = 18 ∧ okNoG x y 0 0 1 q f g) ∨ (k = 19 ∧ okExG x y q f g)
  | [t, a, b, c], [n, s] => k = 8 ∧ okSlC t a b c n s
  | [], [x, v] => k = 11 ∧ okWr x v
  | [], [o, f, l, r] => (k = 14 ∧ okRoom o f l r) ∨ (k = 15 ∧ okOr o f l r)
  | [], [act, a, b, c, r] => k = 12 ∧ r = isF act a b c
  | [], [so, fr, wh, ce, bi, la, se, r] => k = 21 ∧ r = isHF so fr wh ce bi la se
  | [], [al, x0, y0, x1, y1, n, s, m, t] => k = 13 ∧ okLk al x0 y0 x1 y1 n s m t
  | _, _ => False
noncomputable def PPk (k : Nat) (ls : List (List Int32)) (ns : List Int) : Prop := match ns with
  | [] => PPo k ls
  | n :: r => PPn k ls (n :: r)
theorem gI_ne {l : List Int32} {i j : Nat} {v : Int32} (h : i ≠ j) : gI (l.set i v) j = gI l j := by
  unfold gI
  rw [List.getD_eq_getElem?_getD, List.getD_eq_getElem?_getD, List.getElem?_set_ne h]
theorem PPk_4 {n : Nat} {t a b c : List Int32} : PPo (n + 1000) [t, a, b, c] = ((1000 ≤ n + 1000 ∧ n + 1000 < 2000) ∧ okProgB (n + 1000 - 1000) t a b c) := rfl
theorem PPk_1 {n : Nat} {l : List Int32} : PPo (n + 1000) [l] = ((2000 ≤ n + 1000 ∧ okStepsB (n + 1000 - 2000) l) ∨ ((600 ≤ n + 1000 ∧ n + 1000 < 1000) ∧ okHarmB (n + 1000 - 600) l)) := rfl
theorem ppk_big {n : Nat} {ls : List (List Int32)} (h : PPo (n + 1000) ls) : (∃ t a b c, ls = [t, a, b, c] ∧ n + 1000 < 2000 ∧ okProgB (n + 1000 - 1000) t a b c) ∨ (∃ l, ls = [l] ∧ 2000 ≤ n + 1000 ∧ okStepsB (n + 1000 - 2000) l) := by
  match ls, h with
  | [t, a, b, c], h => exact Or.inl ⟨t, a, b, c, rfl, h.1.2, h.2⟩
  | [l], h =>
    rcases (PPk_1 ▸ h : (2000 ≤ n + 1000 ∧ okStepsB (n + 1000 - 2000) l) ∨ ((600 ≤ n + 1000 ∧ n + 1000 < 1000) ∧ okHarmB (n + 1000 - 600) l)) with h | h
    · exact Or.inr ⟨l, rfl, h.1, h.2⟩
    · exact absurd h.1.2 (by omega)
  | [], h => exact (h : False).elim
  | [_, _], h => exact (h : False).elim
  | [_, _, _], h => exact (h : False).elim
  | _ :: _ :: _ :: _ :: _ :: _, h => exact (h : False).elim
theorem updL_one {j : Nat} {v : Int32} {l : List Int32} {ls : List (List Int32)} (h : updL j v [l] ls) : ∃ l', ls = [l'] ∧ (l' = l ∨ l' = l.set j v) := by
  match ls, h with
  | [y], h => exact ⟨y, rfl, h.1⟩
theorem updL_four {j : Nat} {v : Int32} {t a b c : List Int32} {ls : List (List Int32)} (h : updL j v [t, a, b, c] ls) : ∃ t' a' b' c', ls = [t', a', b', c'] ∧ (t' = t ∨ t' = t.set j v) ∧ (a' = a ∨ a' = a.set j v) ∧ (b' = b ∨ b' = b.set j v) ∧ (c' = c ∨ c' = c.set j v) := by
  match ls, h with
  | [t', a', b', c'], h => exact ⟨t', a', b', c', rfl, h.1, h.2.1, h.2.2.1, h.2.2.2.1⟩
theorem upd_len {j : Nat} {v : Int32} {t t' : List Int32} (h : t' = t ∨ t' = t.set j v) : t'.length = t.length := by
  rcases h with rfl | rfl
  · rfl
  · exact List.length_set
theorem upd_gI {j n : Nat} {v : Int32} {t t' : List Int32} (h : t' = t ∨ t' = t.set j v) (hn : j ≠ n) : gI t' n = gI t n := by
  rcases h with rfl | rfl
  · rfl
  · exact gI_ne hn
theorem fpk1 : ∀ (k a b : Nat) (l : List Int32) (i : Nat) (v : Int32), k < 4 → fpOut k [] a b = true → a ≤ i → i ≤ b → PPo k [l] → PPo k [l.set i v] := by
  intro k a b l i v hk h h1 h2 hp
  unfold fpOut at h
  split at h
  · obtain ⟨p1, p2⟩ := (hp : okSteps l)
    refine (show okSteps _ from ⟨by rw [List.length_set]; exact p1, fun j hj => ?_⟩)
    have hout : i < 200 ∨ 680 ≤ i := by
      cases h3 : Nat.blt b 200 with
      | true => have := blt_iff.mp h3; omega
      | false => rw [h3] at h; have := Nat.le_of_ble_eq_true h; omega
    rw [gI_ne (by omega), gI_ne (by omega), gI_ne (by omega), gI_ne (by omega)]
    exact p2 j hj
  · have hp' : okHarm l := hp
    refine (show okHarm _ from fun j hj => ?_)
    have hout : i < 792 ∨ 832 ≤ i := by
      cases h3 : Nat.blt b 792 with
      | true => have := blt_iff.mp h3; omega
      | false => rw [h3] at h; have := Nat.le_of_ble_eq_true h; omega
    rw [gI_ne (by omega), gI_ne (by omega)]
    exact hp' j hj
  · have hp' : okIn l := hp
    have hout : i ≠ 42 ∧ i ≠ 82 ∧ i ≠ 122 ∧ i ≠ 162 := by
      cases h3 : Nat.blt b 42 with
      | true => have := blt_iff.mp h3; omega
      | false =>
        rw [h3] at h
        simp only [cond_false] at h
        cases h4 : (bif Nat.ble 43 a then Nat.blt b 82 else false) with
        | true => obtain ⟨q1, q2⟩ := cand h4; have := Nat.le_of_ble_eq_true q1; have := blt_iff.mp q2; omega
        | false =>
          rw [h4] at h
          simp only [cond_false] at h
          cases h5 : (bif Nat.ble 83 a then Nat.blt b 122 else false) with
          | true => obtain ⟨q1, q2⟩ := cand h5; have := Nat.le_of_ble_eq_true q1; have := blt_iff.mp q2; omega
          | false =>
            rw [h5] at h
            simp only [cond_false] at h
            cases h6 : (bif Nat.ble 123 a then Nat.blt b 162 else false) with
            | true => obtain ⟨q1, q2⟩ := cand h6; have := Nat.le_of_ble_eq_true q1; have := blt_iff.mp q2; omega
            | false => rw [h6] at h; have := Nat.le_of_ble_eq_true h; omega
    refine (show okIn _ from ?_)
    unfold okIn
    rw [gI_ne hout.1, gI_ne hout.2.1, gI_ne hout.2.2.1, gI_ne hout.2.2.2]
    exact hp'
  · rw [blt_iff.mpr (by omega : k < 1000)] at h
    simp only [cond_true] at h
    obtain ⟨g1, _⟩ := cand h
    have := Nat.le_of_ble_eq_true g1
    omega
theorem fpo : ∀ (k a b : Nat) (ls ls' : List (List Int32)) (i : Nat) (v : Int32), fpOut k [] a b = true → a ≤ i → i ≤ b → updL i v ls ls' → PPo k ls → PPo k ls' := by
  intro k a b ls ls' i v h h1 h2 hu hp
  rcases Nat.lt_or_ge k 1000 with hk | hk
  · have h4 : (k = 1 ∨ k = 2 ∨ k = 3) ∨ (600 ≤ k ∧ (bif Nat.blt b 792 then true else bif Nat.ble 832 a then true else bif Nat.ble (Nat.add 792 (Nat.mul 5 (Nat.sub k 600))) a then Nat.ble b (Nat.add 796 (Nat.mul 5 (Nat.sub k 600))) else false) = true) := by
      unfold fpOut at h
      split at h
      · exact Or.inl (Or.inl rfl)
      · exact Or.inl (Or.inr (Or.inl rfl))
      · exact Or.inl (Or.inr (Or.inr rfl))
      · rw [blt_iff.mpr hk] at h
        simp only [cond_true] at h
        obtain ⟨g1, g2⟩ := cand h
        exact Or.inr ⟨Nat.le_of_ble_eq_true g1, g2⟩
    rcases h4 with h4 | ⟨h5, h6⟩
    · have hl : ∃ l, ls = [l] := by
        rcases h4 with rfl | rfl | rfl
        all_goals
          unfold PPo at hp
          split at hp
          all_goals first
            | exact ⟨_, rfl⟩
            | (exfalso; omega)
            | exact hp.elim
      obtain ⟨l, rfl⟩ := hl
      obtain ⟨l', rfl, e | e⟩ := updL_one hu
      · rw [e]; exact hp
      · rw [e]; exact fpk1 k a b l i v (by omega) h h1 h2 hp
    · obtain ⟨n0, rfl⟩ : ∃ n0, k = n0 + 600 := ⟨k - 600, by omega⟩
      have hl : ∃ l, ls = [l] ∧ okHarmB (n0 + 600 - 600) l := by
        match ls, hp with
        | [l], hp =>
          rcases (show (2000 ≤ n0 + 600 ∧ okStepsB (n0 + 600 - 2000) l) ∨ ((600 ≤ n0 + 600 ∧ n0 + 600 < 1000) ∧ okHarmB (n0 + 600 - 600) l) from hp) with hp | hp
          · exact absurd hp.1 (by omega)
          · exact ⟨l, rfl, hp.2⟩
        | [t, x, y, z], hp => exact absurd (show (1000 ≤ n0 + 600 ∧ n0 + 600 < 2000) ∧ _ from hp).1.1 (by omega)
        | [], hp => exact (hp : False).elim
        | [_, _], hp => exact (hp : False).elim
        | [_, _, _], hp => exact (hp : False).elim
        | _ :: _ :: _ :: _ :: _ :: _, hp => exact (hp : False).elim
      obtain ⟨l, rfl, hB⟩ := hl
      obtain ⟨l', rfl, u⟩ := updL_one hu
      refine (show (2000 ≤ n0 + 600 ∧ okStepsB (n0 + 600 - 2000) l') ∨ ((600 ≤ n0 + 600 ∧ n0 + 600 < 1000) ∧ okHarmB (n0 + 600 - 600) l') from Or.inr ⟨⟨by omega, hk⟩, fun n hn hne => ?_⟩)
      have hout : i < 792 ∨ 832 ≤ i ∨ (792 + 5 * (n0 + 600 - 600) ≤ i ∧ i ≤ 796 + 5 * (n0 + 600 - 600)) := by
        cases h7 : Nat.blt b 792 with
        | true => have := blt_iff.mp h7; omega
        | false =>
          rw [h7] at h6
          simp only [cond_false] at h6
          cases h8 : Nat.ble 832 a with
          | true => have := Nat.le_of_ble_eq_true h8; omega
          | false =>
            rw [h8] at h6
            simp only [cond_false] at h6
            obtain ⟨w1, w2⟩ := cand h6
            have w1' : 792 + 5 * (n0 + 600 - 600) ≤ a := Nat.le_of_ble_eq_true w1
            have w2' : b ≤ 796 + 5 * (n0 + 600 - 600) := Nat.le_of_ble_eq_true w2
            omega
      rw [upd_gI u (by omega), upd_gI u (by omega)]
      exact hB n hn hne
  · have hd : ∀ n, n < 1000 → k ≠ n := fun n hn => by omega
    have e0 : Nat.blt k 1000 = false := by
      cases z : Nat.blt k 1000 with
      | false => rfl
      | true => have := blt_iff.mp z; omega
    have hf : (bif Nat.blt k 2000 then (bif Nat.beq a (Nat.sub k 1000) then Nat.beq b a else false) else bif Nat.blt b 200 then true else bif Nat.ble 680 a then true else bif Nat.ble (Nat.add 200 (Nat.mul 4 (Nat.sub k 2000))) a then Nat.ble b (Nat.add 203 (Nat.mul 4 (Nat.sub k 2000))) else false) = true := by
      unfold fpOut at h
      split at h
      · omega
      · omega
      · omega
      · rw [e0] at h
        exact h
    obtain ⟨n0, rfl⟩ : ∃ n0, k = n0 + 1000 := ⟨k - 1000, by omega⟩
    rcases ppk_big hp with ⟨t, x, y, z, rfl, q2, q3, q4⟩ | ⟨l, rfl, q2, q3, q4⟩
    · rw [blt_iff.mpr q2] at hf
      simp only [cond_true] at hf
      cases z1 : Nat.beq a (Nat.sub (n0 + 1000) 1000) with
      | false => rw [z1] at hf; cases hf
      | true =>
        rw [z1] at hf
        have g1 : a = n0 + 1000 - 1000 := Nat.eq_of_beq_eq_true z1
        have g2 : b = a := Nat.eq_of_beq_eq_true hf
        obtain ⟨t', a', b', c', rfl, u1, u2, u3, u4⟩ := updL_four hu
        have hi : i = n0 + 1000 - 1000 := by omega
        rw [PPk_4]
        refine ⟨⟨by omega, q2⟩, ⟨(upd_len u1).trans q3.1, (upd_len u2).trans q3.2.1, (upd_len u3).trans q3.2.2.1, (upd_len u4).trans q3.2.2.2⟩, fun n hn hne => ?_⟩
        have hin : i ≠ n := by omega
        rw [upd_gI u1 hin, upd_gI u2 hin, upd_gI u3 hin, upd_gI u4 hin]
        exact q4 n hn hne
    · obtain ⟨l', rfl, u⟩ := updL_one hu
      have hb : Nat.blt (n0 + 1000) 2000 = false := by
        cases z : Nat.blt (n0 + 1000) 2000 with
        | false => rfl
        | true => have := blt_iff.mp z; omega
      rw [hb] at hf
      simp only [cond_false] at hf
      rw [PPk_1]
      refine Or.inl ⟨q2, (upd_len u).trans q3, fun n hn hne => ?_⟩
      have hout : i < 200 ∨ 680 ≤ i ∨ (200 + 4 * (n0 + 1000 - 2000) ≤ i ∧ i ≤ 203 + 4 * (n0 + 1000 - 2000)) := by
        cases h3 : Nat.blt b 200 with
        | true => have := blt_iff.mp h3; omega
        | false =>
          rw [h3] at hf
          simp only [cond_false] at hf
          cases h4 : Nat.ble 680 a with
          | true => have := Nat.le_of_ble_eq_true h4; omega
          | false =>
            rw [h4] at hf
            simp only [cond_false] at hf
            cases h5 : Nat.ble (Nat.add 200 (Nat.mul 4 (Nat.sub (n0 + 1000) 2000))) a with
            | false => rw [h5] at hf; cases hf
            | true =>
              rw [h5] at hf
              have w1 : 200 + 4 * (n0 + 1000 - 2000) ≤ a := Nat.le_of_ble_eq_true h5
              have w2 : b ≤ 203 + 4 * (n0 + 1000 - 2000) := Nat.le_of_ble_eq_true hf
              omega
      rw [upd_gI u (by omega), upd_gI u (by omega), upd_gI u (by omega), upd_gI u (by omega)]
      exact q4 n hn hne
theorem take_upd {l l' : List Int32} {i n : Nat} {v : Int32} (h : l' = l ∨ l' = l.set i v) (hn : n ≤ i) : l'.take n = l.take n := by
  rcases h with rfl | rfl
  · rfl
  · exact List.take_set_of_le hn
theorem ldk : LDok PPk := by
  intro l i v h
  have h' : (7 = 4 ∧ okCode l i v) ∨ (7 = 7 ∧ okEl l i v) := h
  rcases h' with h' | ⟨-, n, e1, e2⟩
  · exact absurd h'.1 (by decide)
  · rw [e1]
    exact e2
/-- a constant that a store beyond leaves -/
noncomputable def numK (k : Nat) : Prop := 4 ≤ k ∧ k ≤ 21
theorem fp_c {k a b : Nat} {e : Ln} {r : List Ln} (hk : numK k) (h : fpOut k (e :: r) a b = true) : ∃ c : Nat, e = (.ofNat c, []) ∧ (((k = 4 ∨ k = 5 ∨ k = 8 ∨ k = 16) ∧ c ≤ a) ∨ (k = 9 ∧ fp9 c r a b = true) ∨ (k = 17 ∧ fp17 c r a b = true) ∨ (k = 19 ∧ a = c ∧ b = c)) := by
  have hb : Nat.blt k 1000 = true := blt_iff.mpr (by have := hk.2; omega)
  unfold fpOut at h
  split at h
  · exact absurd hk.1 (by decide)
  · exact absurd hk.1 (by decide)
  · exact absurd hk.1 (by decide)
  · rw [hb, cond_true] at h
    split at h
    · rename_i heq
      cases heq
    · rename_i c r' heq
      cases heq
      refine ⟨c, rfl, ?_⟩
      cases z4 : Nat.beq k 4 with
      | true => rw [z4] at h; exact Or.inl ⟨Or.inl (Nat.eq_of_beq_eq_true z4), Nat.le_of_ble_eq_true h⟩
      | false =>
        rw [z4, cond_false] at h
        cases z5 : Nat.beq k 5 with
        | true => rw [z5] at h; exact Or.inl ⟨Or.inr (Or.inl (Nat.eq_of_beq_eq_true z5)), Nat.le_of_ble_eq_true h⟩
        | false =>
          rw [z5, cond_false] at h
          cases z8 : Nat.beq k 8 with
          | true => rw [z8] at h; exact Or.inl ⟨Or.inr (Or.inr (Or.inl (Nat.eq_of_beq_eq_true z8))), Nat.le_of_ble_eq_true h⟩
          | false =>
            rw [z8, cond_false] at h
            cases z9 : Nat.beq k 9 with
            | true => rw [z9] at h; exact Or.inr (Or.inl ⟨Nat.eq_of_beq_eq_true z9, h⟩)
            | false =>
              rw [z9, cond_false] at h
              cases z16 : Nat.beq k 16 with
              | true => rw [z16] at h; exact Or.inl ⟨Or.inr (Or.inr (Or.inr (Nat.eq_of_beq_eq_true z16))), Nat.le_of_ble_eq_true h⟩
              | false =>
                rw [z16, cond_false] at h
                cases z17 : Nat.beq k 17 with
                | true => rw [z17] at h; exact Or.inr (Or.inr (Or.inl ⟨Nat.eq_of_beq_eq_true z17, h⟩))
                | false =>
                  rw [z17, cond_false] at h
                  cases z19 : Nat.beq k 19 with
                  | false => rw [z19] at h; cases h
                  | true =>
                    rw [z19, cond_true] at h
                    obtain ⟨q1, q2⟩ := cand h
                    exact Or.inr (Or.inr (Or.inr ⟨Nat.eq_of_beq_eq_true z19, Nat.eq_of_beq_eq_true q1, Nat.eq_of_beq_eq_true q2⟩))
    · cases h
theorem pC_eq {t a b c t' a' b' c' : List Int32} : ∀ m : Nat, (∀ i, i < m → gI t' i = gI t i ∧ gI a' i = gI a i ∧ gI b' i = gI b i ∧ gI c' i = gI c i) → pC t' a' b' c' m = pC t a b c m := by
  intro m
  induction m with
  | zero => intro _; rfl
  | succ m ih =>
    intro h
    obtain ⟨h1, h2, h3, h4⟩ := h m (Nat.lt_succ_self m)
    show 923521 * pC t' a' b' c' m + 29791 * gI t' m + 961 * gI a' m + 31 * gI b' m + gI c' m = 923521 * pC t a b c m + 29791 * gI t m + 961 * gI a m + 31 * gI b m + gI c m
    rw [ih (fun i hi => h i (Nat.lt_succ_of_lt hi)), h1, h2, h3, h4]
theorem pR_eq {l l' : List Int32} {o o' : Nat} : ∀ m : Nat, (∀ i, i < 4 * m → gI l' (o' + i) = gI l (o + i)) → pR l' o' m = pR l o m := by
  intro m
  induction m with
  | zero => intro _; rfl
  | succ m ih =>
    intro h
    show 923521 * pR l' o' m + 29791 * gI l' (o' + 4 * m) + 961 * gI l' (o' + 4 * m + 1) + 31 * gI l' (o' + 4 * m + 2) + gI l' (o' + 4 * m + 3) = 923521 * pR l o m + 29791 * gI l (o + 4 * m) + 961 * gI l (o + 4 * m + 1) + 31 * gI l (o + 4 * m + 2) + gI l (o + 4 * m + 3)
    rw [ih (fun i hi => h i (by omega)), h (4 * m) (by omega), show o' + 4 * m + 1 = o' + (4 * m + 1) from rfl, h (4 * m + 1) (by omega), show o' + 4 * m + 2 = o' + (4 * m + 2) from rfl, h (4 * m + 2) (by omega), show o' + 4 * m + 3 = o' + (4 * m + 3) from rfl, h (4 * m + 3) (by omega)]
    rfl
theorem fp9_ok {c a b : Nat} {r : List Ln} {ρ : Nat → Int} {l l' : List Int32} {i : Nat} {v : Int32} {n s : Int} {r' : List Int} (h : fp9 c r a b = true) (h1 : a ≤ i) (h2 : i ≤ b) (hl : l' = l ∨ l' = l.set i v) (hr : r.map (ev ρ) = n :: r') (hp : okSlR l (c : Int) n s) : okSlR l' (c : Int) n s := by
  obtain ⟨p, m, q1, q2, q3, q4, q5⟩ := hp
  have hpc : p = c := by omega
  subst hpc
  refine ⟨p, m, rfl, q2, q3, by rw [upd_len hl]; exact q4, ?_⟩
  rw [q5]
  have hout : i < p ∨ p + 4 * m ≤ i := by
    unfold fp9 at h
    cases z1 : Nat.blt b p with
    | true => have := blt_iff.mp z1; omega
    | false =>
      rw [z1] at h
      cases z2 : Nat.ble (Nat.add p 240) a with
      | true => have z3 : p + 240 ≤ a := Nat.le_of_ble_eq_true z2; omega
      | false =>
        rw [z2] at h
        simp only [cond_false] at h
        match r, h, hr with
        | (.ofNat k, []) :: r2, h, hr =>
          have e1 : ev ρ ((.ofNat k, []) : Ln) = (k : Int) := ev_k ρ k
          rw [List.map_cons, e1] at hr
          have e2 : (k : Int) = n := (List.cons.inj hr).1
          have e3 : p + 4 * k ≤ a := Nat.le_of_ble_eq_true h
          omega
        | (.ofNat k, _ :: _) :: r2, h, _ => exact absurd h Bool.false_ne_true
        | (.negSucc k, _) :: r2, h, _ => exact absurd h Bool.false_ne_true
        | [], h, _ => exact absurd h Bool.false_ne_true
  refine (pR_eq m fun j hj => ?_).symm
  exact upd_gI hl (by omega)
theorem slF_eq {x x' : List Int32} {b s i j : Nat} {v : Int32} (h : x' = x ∨ x' = x.set j v) (hn : j ≠ b + s * i) : slF x' b s i = slF x b s i := upd_gI h hn
theorem okOcc_fr {x y x' y' : List Int32} {bx bY s : Nat} {n o : Int} (hx : x'.length = x.length) (hy : y'.length = y.length) (h : ∀ m : Nat, n = m → ∀ i, i < m → slF x' bx s i = slF x bx s i ∧ slF y' bY s i = slF y bY s i) (hp : okOccG x y bx bY s n o) : okOccG x' y' bx bY s n o := by
  obtain ⟨m, w, h1, h2, h3, h4, h5⟩ := hp
  refine ⟨m, w, h1, h2, h3, fun i hi => ?_, fun j => ?_⟩
  · rw [hx, hy, (h m h1 i hi).1, (h m h1 i hi).2]
    exact h4 i hi
  · rw [h5 j]
    constructor
    · rintro ⟨i, i1, i2, i3⟩
      refine ⟨i, i1, ?_⟩
      rw [(h m h1 i i1).1, (h m h1 i i1).2]
      exact ⟨i2, i3⟩
    · rintro ⟨i, i1, i2, i3⟩
      refine ⟨i, i1, ?_⟩
      rw [← (h m h1 i i1).1, ← (h m h1 i i1).2]
      exact ⟨i2, i3⟩
theorem updL_two {j : Nat} {v : Int32} {t a : List Int32} {ls : List (List Int32)} (h : updL j v [t, a] ls) : ∃ t' a', ls = [t', a'] ∧ (t' = t ∨ t' = t.set j v) ∧ (a' = a ∨ a' = a.set j v) := by
  match ls, h with
  | [t', a'], h => exact ⟨t', a', rfl, h.1, h.2.1⟩
theorem fp17_ok {c a b : Nat} {r : List Ln} {ρ : Nat → Int} {l l' : List Int32} {i : Nat} {v : Int32} {n o : Int} {r' : List Int} (h : fp17 c r a b = true) (h1 : a ≤ i) (h2 : i ≤ b) (hl : l' = l ∨ l' = l.set i v) (hr : r.map (ev ρ) = n :: r') (hp : okOccG l l (c + 1) (c + 2) 3 n o) : okOccG l' l' (c + 1) (c + 2) 3 n o := by
  refine okOcc_fr (upd_len hl) (upd_len hl) (fun m hm j hj => ?_) hp
  have hm8 : m ≤ 8 := by
    obtain ⟨m', -, e1, -, e3, -⟩ := hp
    omega
  have hout : i < c ∨ c + 3 * m ≤ i := by
    unfold fp17 at h
    cases z1 : Nat.blt b c with
    | true => have := blt_iff.mp z1; omega
    | false =>
      rw [z1] at h
      cases z2 : Nat.ble (Nat.add c 24) a with
      | true => have z3 : c + 24 ≤ a := Nat.le_of_ble_eq_true z2; omega
      | false =>
        rw [z2] at h
        simp only [cond_false] at h
        match r, h, hr with
        | (.ofNat k, []) :: r2, h, hr =>
          have e1 : ev ρ ((.ofNat k, []) : Ln) = (k : Int) := ev_k ρ k
          rw [List.map_cons, e1] at hr
          have e2 : (k : Int) = n := (List.cons.inj hr).1
          have e3 : c + 3 * k ≤ a := Nat.le_of_ble_eq_true h
          omega
        | (.ofNat k, _ :: _) :: r2, h, _ => exact absurd h Bool.false_ne_true
        | (.negSucc k, _) :: r2, h, _ => exact absurd h Bool.false_ne_true
        | [], h, _ => exact absurd h Bool.false_ne_true
  exact ⟨slF_eq hl (by omega), slF_eq hl (by omega)⟩
theorem fpk : FPok PPk := by
  refine ⟨ldk, ?_⟩
  intro k a b ls ls' ns ρ i v h h1 h2 hu hp
  cases ns with
  | nil => exact fpo k a b ls ls' i v h h1 h2 hu hp
  | cons e r =>
    have hp' : PPn k ls (ev ρ e :: r.map (ev ρ)) := hp
    clear hp
    show PPn k ls' (ev ρ e :: r.map (ev ρ))
    have hk : numK k := by
      unfold PPn at hp'
      unfold numK
      split at hp'
      all_goals first
        | exact hp'.elim
        | (have := hp'.1; omega)
        | (rcases hp' with hp' | hp'
           · have := hp'.1; omega
           · have := hp'.1; omega)
        | (rcases hp' with hp' | hp' | hp'
           · have := hp'.1; omega
           · have := hp'.1; omega
           · have := hp'.1; omega)
    obtain ⟨c, hec0, hc⟩ := fp_c hk h
    subst hec0
    have hec : ev ρ ((.ofNat c, []) : Ln) = (c : Int) := ev_k ρ c
    rw [hec] at hp' ⊢
    generalize hrr : r.map (ev ρ) = rr at hp' ⊢
    unfold PPn at hp'
    split at hp'
    · -- 6
      rename_i heq
      cases heq
      have := hp'.1
      omega
    · -- 4, 7
      rename_i l s d heq
      cases heq
      obtain ⟨l', rfl, hl⟩ := updL_one hu
      have hlen := upd_len hl
      rcases hp' with hp' | hp'
      · obtain ⟨q0, n, m, q1, q2, q3, q4⟩ := hp'
        have hca : c ≤ a := by rcases hc with hc | hc | hc | hc <;> omega
        have hn : n = c := by omega
        subst hn
        exact Or.inl ⟨q0, n, m, q1, q2, by omega, by rw [take_upd hl (by omega)]; exact q4⟩
      · have := hp'.1
        omega
    · -- 5, 9, 17
      rename_i l w o y heq
      cases heq
      obtain ⟨l', rfl, hl⟩ := updL_one hu
      have hlen := upd_len hl
      rcases hp' with hp' | hp' | hp'
      · obtain ⟨q0, n, x, z, q1, q2, q3, q4, q5⟩ := hp'
        have hca : c ≤ a := by rcases hc with hc | hc | hc | hc <;> omega
        have hn : n = c := by omega
        subst hn
        exact Or.inl ⟨q0, n, x, z, q1, q2, q3, by omega, by rw [take_upd hl (by omega)]; exact q5⟩
      · obtain ⟨q0, q1⟩ := hp'
        have hf : fp9 c r a b = true := by
          rcases hc with hc | hc | hc | hc
          · omega
          · exact hc.2
          · omega
          · omega
        exact Or.inr (Or.inl ⟨q0, fp9_ok hf h1 h2 hl hrr q1⟩)
      · obtain ⟨q0, c', q1, q2⟩ := hp'
        have hf : fp17 c r a b = true := by
          rcases hc with hc | hc | hc | hc
          · omega
          · omega
          · exact hc.2
          · omega
        have ec : c' = c := by omega
        subst ec
        exact Or.inr (Or.inr ⟨q0, c', rfl, fp17_ok hf h1 h2 hl hrr q2⟩)
    · -- 20
      rename_i heq
      cases heq
      have := hp'.1
      omega
    · -- 16
      rename_i x y n o heq
      cases heq
      obtain ⟨x', y', rfl, u1, u2⟩ := updL_two hu
      obtain ⟨q0, q1⟩ := hp'
      have hca : c ≤ a := by rcases hc with hc | hc | hc | hc <;> omega
      refine (show k = 16 ∧ okOccG x' y' 0 0 1 (c : Int) _ from ⟨q0, okOcc_fr (upd_len u1) (upd_len u2) (fun m hm j hj => ?_) q1⟩)
      exact ⟨slF_eq u1 (by omega), slF_eq u2 (by omega)⟩
    · -- 18, 19
      rename_i x y q f g heq
      cases heq
      obtain ⟨x', y', rfl, u1, u2⟩ := updL_two hu
      rcases hp' with hp' | hp'
      · have := hp'.1
        omega
      · obtain ⟨q0, c1, m, w, q1, q2, q3, q4, q5, q6, q7, q8⟩ := hp'
        have hcc : a = c ∧ b = c := by
          rcases hc with hc | hc | hc | hc
          · omega
          · omega
          · omega
          · exact hc.2
        have ec : c1 = c := by omega
        subst ec
        have hs : ∀ n, n ≠ c1 → slF x' 0 1 n = slF x 0 1 n ∧ slF y' 0 1 n = slF y 0 1 n := fun n hn => ⟨slF_eq u1 (by omega), slF_eq u2 (by omega)⟩
        refine Or.inr ⟨q0, c1, m, w, q1, q2, q3, q4, q5, by rw [upd_len u1, upd_len u2]; exact q6, fun n hn hne => ?_, fun j => ?_⟩
        · rw [(hs n hne).1, (hs n hne).2]
          exact q7 n hn hne
        · rw [q8 j]
          constructor
          · rintro ⟨n, n1, n2, n3⟩
            refine ⟨n, n1, ?_⟩
            rw [(hs n n1.2).1, (hs n n1.2).2]
            exact ⟨n2, n3⟩
          · rintro ⟨n, n1, n2, n3⟩
            refine ⟨n, n1, ?_⟩
            rw [← (hs n n1.2).1, ← (hs n n1.2).2]
            exact ⟨n2, n3⟩
    · -- 8
      rename_i t x y z n s heq
      cases heq
      obtain ⟨t', x', y', z', rfl, u1, u2, u3, u4⟩ := updL_four hu
      obtain ⟨q0, m, q1, q2, q3, q4⟩ := hp'
      have hca : c ≤ a := by rcases hc with hc | hc | hc | hc <;> omega
      refine (show k = 8 ∧ okSlC t' x' y' z' (c : Int) _ from ⟨q0, m, q1, q2, ⟨by rw [upd_len u1]; exact q3.1, by rw [upd_len u2]; exact q3.2.1, by rw [upd_len u3]; exact q3.2.2.1, by rw [upd_len u4]; exact q3.2.2.2⟩, ?_⟩)
      rw [q4]
      refine (pC_eq m fun j hj => ?_).symm
      have hne : i ≠ j := by omega
      exact ⟨upd_gI u1 hne, upd_gI u2 hne, upd_gI u3 hne, upd_gI u4 hne⟩
    · -- 11
      rename_i heq
      cases heq
      have := hp'.1
      omega
    · -- 14, 15
      rename_i heq
      cases heq
      rcases hp' with hp' | hp'
      · have := hp'.1; omega
      · have := hp'.1; omega
    · -- 12
      rename_i heq
      cases heq
      have := hp'.1
      omega
    · -- 21
      rename_i heq
      cases heq
      have := hp'.1
      omega
    · -- 13
      rename_i heq
      cases heq
      have := hp'.1
      omega
    · exact hp'.elim
