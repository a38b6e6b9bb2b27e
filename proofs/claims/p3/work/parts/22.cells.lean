/-! ===== abstract cells, heaps, locals ===== -/
noncomputable def rel2 {α β : Type} (R : α → β → Prop) : List α → List β → Prop
  | [], [] => True
  | a :: l, b :: r => R a b ∧ rel2 R l r
  | [], _ :: _ => False
  | _ :: _, [] => False
section REL
variable {α β : Type} {R : α → β → Prop}
theorem rel2_nil {l : List α} (h : rel2 R l []) : l = [] := by cases l with
  | nil => rfl
  | cons a l => exact h.elim
theorem rel2_cons {l : List α} {b : β} {r : List β} (h : rel2 R l (b :: r)) : ∃ a l', l = a :: l' ∧ R a b ∧ rel2 R l' r := by cases l with
  | nil => exact h.elim
  | cons a l => exact ⟨a, l, rfl, h.1, h.2⟩
theorem rel2_len {l : List α} {r : List β} (h : rel2 R l r) : l.length = r.length := by
  induction r generalizing l with
  | nil => rw [rel2_nil h]; rfl
  | cons b r ih => obtain ⟨a, l', rfl, -, h2⟩ := rel2_cons h; simp [ih h2]
theorem rel2_get {l : List α} {r : List β} (h : rel2 R l r) {i : Nat} {b : β} (hb : r[i]? = some b) : ∃ a, l[i]? = some a ∧ R a b := by
  induction r generalizing l i with
  | nil => cases hb
  | cons c r ih =>
    obtain ⟨a, l', rfl, h1, h2⟩ := rel2_cons h
    cases i with
    | zero => cases hb; exact ⟨a, rfl, h1⟩
    | succ i => exact ih h2 hb
theorem rel2_get' {l : List α} {r : List β} (h : rel2 R l r) {i : Nat} {a : α} (ha : l[i]? = some a) : ∃ b, r[i]? = some b ∧ R a b := by
  induction r generalizing l i with
  | nil => rw [rel2_nil h] at ha; cases ha
  | cons c r ih =>
    obtain ⟨a', l', rfl, h1, h2⟩ := rel2_cons h
    cases i with
    | zero => cases ha; exact ⟨c, rfl, h1⟩
    | succ i => exact ih h2 ha
theorem rel2_set {l : List α} {r : List β} (h : rel2 R l r) {i : Nat} {a : α} {b : β} (hab : R a b) : rel2 R (l.set i a) (r.set i b) := by
  induction r generalizing l i with
  | nil => rw [rel2_nil h]; exact trivial
  | cons c r ih =>
    obtain ⟨a', l', rfl, h1, h2⟩ := rel2_cons h
    cases i with
    | zero => exact ⟨hab, h2⟩
    | succ i => exact ⟨h1, ih h2⟩
theorem rel2_app {l l2 : List α} {r r2 : List β} (h : rel2 R l r) (h2 : rel2 R l2 r2) : rel2 R (l ++ l2) (r ++ r2) := by
  induction r generalizing l with
  | nil => rw [rel2_nil h]; exact h2
  | cons c r ih => obtain ⟨a', l', rfl, h3, h4⟩ := rel2_cons h; exact ⟨h3, ih h4⟩
theorem rel2_imp {R' : α → β → Prop} (hi : ∀ a b, R a b → R' a b) {l : List α} {r : List β} (h : rel2 R l r) : rel2 R' l r := by
  induction r generalizing l with
  | nil => rw [rel2_nil h]; exact trivial
  | cons c r ih => obtain ⟨a', l', rfl, h3, h4⟩ := rel2_cons h; exact ⟨hi _ _ h3, ih h4⟩
theorem rel2_map {γ δ : Type} {R' : γ → δ → Prop} {f : α → γ} {g : β → δ} (hi : ∀ a b, R a b → R' (f a) (g b)) {l : List α} {r : List β} (h : rel2 R l r) : rel2 R' (l.map f) (r.map g) := by
  induction r generalizing l with
  | nil => rw [rel2_nil h]; exact trivial
  | cons c r ih => obtain ⟨a', l', rfl, h3, h4⟩ := rel2_cons h; exact ⟨hi _ _ h3, ih h4⟩
theorem rel2_drop {l : List α} {r : List β} (h : rel2 R l r) (n : Nat) : rel2 R (l.drop n) (r.drop n) := by
  induction r generalizing l n with
  | nil => rw [rel2_nil h]; simp [rel2]
  | cons c r ih =>
    obtain ⟨a', l', rfl, h3, h4⟩ := rel2_cons h
    cases n with
    | zero => exact ⟨h3, h4⟩
    | succ n => exact ih h4 n
theorem rel2_take {l : List α} {r : List β} (h : rel2 R l r) (n : Nat) : rel2 R (l.take n) (r.take n) := by
  induction r generalizing l n with
  | nil => rw [rel2_nil h]; simp [rel2]
  | cons c r ih =>
    obtain ⟨a', l', rfl, h3, h4⟩ := rel2_cons h
    cases n with
    | zero => exact trivial
    | succ n => exact ⟨h3, ih h4 n⟩
theorem rel2_rev {l : List α} {r : List β} (h : rel2 R l r) : rel2 R l.reverse r.reverse := by
  induction r generalizing l with
  | nil => rw [rel2_nil h]; exact trivial
  | cons c r ih =>
    obtain ⟨a', l', rfl, h3, h4⟩ := rel2_cons h
    rw [List.reverse_cons, List.reverse_cons]
    exact rel2_app (ih h4) ⟨h3, trivial⟩
end REL
-- int arrays in segments
abbrev Sg : Type := Ln ⊕ (Nat × Int × Int)
noncomputable def srel (ρ : Nat → Int) : List Sg → List Int32 → Prop
  | [], l => l = []
  | .inl e :: r, l => ∃ (x : Int32) (l' : List Int32), l = x :: l' ∧ x.toInt = ev ρ e ∧ srel ρ r l'
  | .inr (m, lo, hi) :: r, l => ∃ l1 l2 : List Int32, l = l1 ++ l2 ∧ l1.length = m ∧ (∀ x ∈ l1, lo ≤ x.toInt ∧ x.toInt ≤ hi) ∧ srel ρ r l2
noncomputable def sgLen  : List Sg → Nat :=
  fun e_0 => List.rec (motive := fun _ => Nat) (nat_lit 0) (fun h_0 t_0 ih => (Sum.rec (motive := fun _ => Nat) (fun x_346 => (Nat.succ (ih))) (fun x_347 => (Prod.rec (motive := fun _ => Nat) (fun m_348 x_349 => (Prod.rec (motive := fun _ => Nat) (fun x_350 x_351 => (Nat.add m_348 (ih))) x_349)) x_347)) h_0)) e_0 
theorem sgLen_def  (e_0 : List Sg) : sgLen  e_0 = (match e_0 with
  | [] => 0
  | .inl _ :: r => Nat.succ (sgLen r)
  | .inr (m, _, _) :: r => Nat.add m (sgLen r)) := by
  cases e_0 with
  | nil =>
    show (nat_lit 0) = _
    try simp only [iAddQ_eq, iMulQ_eq, iNegQ_eq, lenQ_eq, nthQ_eq, setQ_eq, appQ_eq, mapQ_eq, allQ_eq, anyQ_eq, dropQ_eq, takeQ_eq, revQ_eq, getDQ_eq, optLQ_eq, brecC]
    all_goals rfl
  | cons h_0 t_0 =>
    show (Sum.rec (motive := fun _ => Nat) (fun x_352 => (Nat.succ (sgLen t_0))) (fun x_353 => (Prod.rec (motive := fun _ => Nat) (fun m_354 x_355 => (Prod.rec (motive := fun _ => Nat) (fun x_356 x_357 => (Nat.add m_354 (sgLen t_0))) x_355)) x_353)) h_0) = _
    try simp only [iAddQ_eq, iMulQ_eq, iNegQ_eq, lenQ_eq, nthQ_eq, setQ_eq, appQ_eq, mapQ_eq, allQ_eq, anyQ_eq, dropQ_eq, takeQ_eq, revQ_eq, getDQ_eq, optLQ_eq, brecC]
    all_goals
      cases h_0 with
      | inl y_358 =>
        try dsimp only [cond_false, cond_true]
        all_goals rfl
      | inr y_359 =>
        try dsimp only [cond_false, cond_true]
        all_goals
          cases y_359 with
          | mk y_360 y_361 =>
            try dsimp only [cond_false, cond_true]
            all_goals
              cases y_361 with
              | mk y_362 y_363 =>
                try dsimp only [cond_false, cond_true]
                all_goals rfl
theorem srel_len {ρ : Nat → Int} {s : List Sg} {l : List Int32} (h : srel ρ s l) : l.length = sgLen s := by
  induction s generalizing l with
  | nil => rw [h]; rfl
  | cons q r ih =>
    match q, h with
    | .inl e, ⟨x, l', e1, _, h2⟩ =>
      subst e1
      rw [List.length_cons, ih h2]
      rfl
    | .inr (m, lo, hi), ⟨l1, l2, e1, h1, _, h2⟩ =>
      subst e1
      rw [List.length_append, h1, ih h2]
      rfl
noncomputable def sgAt_a0 :=
  fun (lo_369 : Int) (hi_370 : Int) => ((some (.inr (lo_369, hi_370, none))) : Option OR)
noncomputable def sgAt_a1 :=
  fun (ih : Nat → Option OR) (e_1 : Nat) (m_367 : Nat) (lo_369 : Int) (hi_370 : Int) => ((Bool.rec (motive := fun _ => Option OR) (ih (Nat.sub e_1 m_367)) (sgAt_a0 lo_369 hi_370) (Nat.blt e_1 m_367)) : Option OR)
noncomputable def sgAt  : List Sg → Nat → Option OR :=
  fun e_0 e_1 => List.rec (motive := fun _ => Nat → Option OR) (fun e_1 => none) (fun h_0 t_0 ih e_1 => (Sum.rec (motive := fun _ => Option OR) (fun e_364 => (Nat.rec (motive := fun _ => Option OR) (some (.inl e_364)) (fun k_366 _ => (ih k_366)) e_1)) (fun x_365 => (Prod.rec (motive := fun _ => Option OR) (fun m_367 x_368 => (Prod.rec (motive := fun _ => Option OR) (fun lo_369 hi_370 => (sgAt_a1 ih e_1 m_367 lo_369 hi_370)) x_368)) x_365)) h_0)) e_0 e_1
theorem sgAt_def  (e_0 : List Sg) (e_1 : Nat) : sgAt  e_0 e_1 = (match e_0, e_1 with
  | [], _ => none
  | .inl e :: r, k => match k with
    | 0 => some (.inl e)
    | k + 1 => sgAt r k
  | .inr (m, lo, hi) :: r, k => bif Nat.blt k m then some (.inr (lo, hi, none)) else sgAt r (Nat.sub k m)) := by
  cases e_0 with
  | nil =>
    show none = _
    try simp only [iAddQ_eq, iMulQ_eq, iNegQ_eq, lenQ_eq, nthQ_eq, setQ_eq, appQ_eq, mapQ_eq, allQ_eq, anyQ_eq, dropQ_eq, takeQ_eq, revQ_eq, getDQ_eq, optLQ_eq, brecC]
    all_goals rfl
  | cons h_0 t_0 =>
    show (Sum.rec (motive := fun _ => Option OR) (fun e_371 => (Nat.rec (motive := fun _ => Option OR) (some (.inl e_371)) (fun k_373 _ => (sgAt t_0 k_373)) e_1)) (fun x_372 => (Prod.rec (motive := fun _ => Option OR) (fun m_374 x_375 => (Prod.rec (motive := fun _ => Option OR) (fun lo_376 hi_377 => (Bool.rec (motive := fun _ => Option OR) (sgAt t_0 (Nat.sub e_1 m_374)) (some (.inr (lo_376, hi_377, none))) (Nat.blt e_1 m_374))) x_375)) x_372)) h_0) = _
    try simp only [iAddQ_eq, iMulQ_eq, iNegQ_eq, lenQ_eq, nthQ_eq, setQ_eq, appQ_eq, mapQ_eq, allQ_eq, anyQ_eq, dropQ_eq, takeQ_eq, revQ_eq, getDQ_eq, optLQ_eq, brecC]
    all_goals
      cases h_0 with
      | inl y_378 =>
        try dsimp only [cond_false, cond_true]
        all_goals
          cases e_1 with
          | zero =>
            try dsimp only [cond_false, cond_true]
            all_goals rfl
          | succ y_379 =>
            try dsimp only [cond_false, cond_true]
            all_goals rfl
      | inr y_380 =>
        try dsimp only [cond_false, cond_true]
        all_goals
          cases y_380 with
          | mk y_381 y_382 =>
            try dsimp only [cond_false, cond_true]
            all_goals
              cases y_382 with
              | mk y_383 y_384 =>
                try dsimp only [cond_false, cond_true]
                all_goals
                  cases hq_5 : (Nat.blt e_1 y_381) with
                  | false =>
                    try dsimp only [cond_false, cond_true]
                    all_goals rfl
                  | true =>
                    try dsimp only [cond_false, cond_true]
                    all_goals rfl
theorem blt_iff {a b : Nat} : Nat.blt a b = true ↔ a < b := by
  show Nat.ble (a + 1) b = true ↔ _
  rw [Nat.ble_eq]
  exact Iff.rfl
theorem blt_f {a b : Nat} (h : Nat.blt a b = false) : b ≤ a := by
  cases Nat.lt_or_ge a b with
  | inl q => rw [blt_iff.mpr q] at h; cases h
  | inr q => exact q
theorem sgAt_ok {ρ : Nat → Int} {s : List Sg} {l : List Int32} (h : srel ρ s l) {k : Nat} {o : OR} (ho : sgAt s k = some o) : ∃ x, l[k]? = some x ∧ orOk ρ x.toInt o := by
  induction s generalizing l k with
  | nil => cases ho
  | cons q r ih =>
    match q, h with
    | .inl e, ⟨x, l', e1, e2, h2⟩ =>
      subst e1
      cases k with
      | zero => cases ho; exact ⟨x, rfl, e2⟩
      | succ k => exact ih h2 ho
    | .inr (m, lo, hi), ⟨l1, l2, e1, e2, e3, h2⟩ =>
      subst e1
      rw [sgAt_def] at ho
      try dsimp only at ho
      cases h3 : Nat.blt k m with
      | true =>
        rw [h3] at ho
        cases ho
        have h4 := blt_iff.mp h3
        refine ⟨l1[k]'(by omega), ?_, e3 _ (List.getElem_mem _), fun _ h => by cases h⟩
        rw [List.getElem?_append_left (by omega), List.getElem?_eq_getElem]
      | false =>
        rw [h3] at ho
        have h4 := blt_f h3
        obtain ⟨x, h5, h6⟩ := ih h2 ho
        refine ⟨x, ?_, h6⟩
        rw [List.getElem?_append_right (by omega), e2]
        exact h5
noncomputable def joinB_a0 :=
  fun (l2_395 : Int) (l1_392 : Int) (h1_393 : Int) (h2_396 : Int) => ((some ((Bool.rec (motive := fun _ => _) l2_395 l1_392 (leI l1_392 l2_395)), (Bool.rec (motive := fun _ => _) h1_393 h2_396 (leI h1_393 h2_396)))) : Option (Int × Int))
noncomputable def joinB (a b : Option (Int × Int)) : Option (Int × Int) :=
  (Option.rec (motive := fun _ => Option (Int × Int)) none (fun x_391 => (Prod.rec (motive := fun _ => Option (Int × Int)) (fun l1_392 h1_393 => (Option.rec (motive := fun _ => Option (Int × Int)) none (fun x_394 => (Prod.rec (motive := fun _ => Option (Int × Int)) (fun l2_395 h2_396 => (joinB_a0 l2_395 l1_392 h1_393 h2_396)) x_394)) b)) x_391)) a)
theorem joinB_def (a b : Option (Int × Int)) : joinB a b = (match a, b with
  | some (l1, h1), some (l2, h2) => some (bif leI l1 l2 then l1 else l2, bif leI h1 h2 then h2 else h1)
  | _, _ => none) := by
  show (Option.rec (motive := fun _ => Option (Int × Int)) none (fun x_385 => (Prod.rec (motive := fun _ => Option (Int × Int)) (fun l1_386 h1_387 => (Option.rec (motive := fun _ => Option (Int × Int)) none (fun x_388 => (Prod.rec (motive := fun _ => Option (Int × Int)) (fun l2_389 h2_390 => (some ((Bool.rec (motive := fun _ => _) l2_389 l1_386 (leI l1_386 l2_389)), (Bool.rec (motive := fun _ => _) h1_387 h2_390 (leI h1_387 h2_390))))) x_388)) b)) x_385)) a) = _
  try simp only [iAddQ_eq, iMulQ_eq, iNegQ_eq, lenQ_eq, nthQ_eq, setQ_eq, appQ_eq, mapQ_eq, allQ_eq, anyQ_eq, dropQ_eq, takeQ_eq, revQ_eq, getDQ_eq, optLQ_eq, brecC]
  all_goals
    cases a with
    | none =>
      try dsimp only [cond_false, cond_true]
      all_goals rfl
    | some y_397 =>
      try dsimp only [cond_false, cond_true]
      all_goals
        cases y_397 with
        | mk y_398 y_399 =>
          try dsimp only [cond_false, cond_true]
          all_goals
            cases b with
            | none =>
              try dsimp only [cond_false, cond_true]
              all_goals rfl
            | some y_400 =>
              try dsimp only [cond_false, cond_true]
              all_goals
                cases y_400 with
                | mk y_401 y_402 =>
                  try dsimp only [cond_false, cond_true]
                  all_goals rfl
theorem joinB_ok {a b : Option (Int × Int)} {lo hi : Int} (h : joinB a b = some (lo, hi)) : (∃ l1 h1, a = some (l1, h1) ∧ lo ≤ l1 ∧ h1 ≤ hi) ∧ ∃ l2 h2, b = some (l2, h2) ∧ lo ≤ l2 ∧ h2 ≤ hi := by
  rw [joinB_def] at h
  split at h
  · rename_i l1 h1 l2 h2
    cases h
    refine ⟨⟨_, _, rfl, ?_, ?_⟩, ⟨_, _, rfl, ?_, ?_⟩⟩
    · cases h3 : leI l1 l2 with
      | true => exact Int.le_refl _
      | false => have : ¬ l1 ≤ l2 := fun q => by rw [leI_iff.mpr q] at h3; cases h3
                 show l2 ≤ l1; omega
    · cases h3 : leI h1 h2 with
      | true => exact leI_le h3
      | false => exact Int.le_refl _
    · cases h3 : leI l1 l2 with
      | true => exact leI_le h3
      | false => exact Int.le_refl _
    · cases h3 : leI h1 h2 with
      | true => exact Int.le_refl _
      | false => have : ¬ h1 ≤ h2 := fun q => by rw [leI_iff.mpr q] at h3; cases h3
                 show h2 ≤ h1; omega
  · cases h
noncomputable def bndL (tab : Tb) (e : Ln) : Option (Int × Int) :=
  (Option.rec (motive := fun _ => Option (Int × Int)) none (fun a_405 => (Option.rec (motive := fun _ => Option (Int × Int)) none (fun b_406 => (some (a_405, b_406))) (ub tab e))) (lb tab e))
theorem bndL_def (tab : Tb) (e : Ln) : bndL tab e = (match lb tab e, ub tab e with
  | some a, some b => some (a, b)
  | _, _ => none) := by
  show (Option.rec (motive := fun _ => Option (Int × Int)) none (fun a_403 => (Option.rec (motive := fun _ => Option (Int × Int)) none (fun b_404 => (some (a_403, b_404))) (ub tab e))) (lb tab e)) = _
  all_goals
    cases hq_1 : (lb tab e) with
    | none =>
      try dsimp only [cond_false, cond_true]
      all_goals rfl
    | some y_407 =>
      try dsimp only [cond_false, cond_true]
      all_goals
        cases hq_2 : (ub tab e) with
        | none =>
          try dsimp only [cond_false, cond_true]
          all_goals rfl
        | some y_408 =>
          try dsimp only [cond_false, cond_true]
          all_goals rfl
theorem bndL_ok {ρ : Nat → Int} {tab : Tb} (h : tOk ρ tab) {e : Ln} {lo hi : Int} (hb : bndL tab e = some (lo, hi)) : lo ≤ ev ρ e ∧ ev ρ e ≤ hi := by
  rw [bndL_def] at hb
  split at hb
  · rename_i a b h1 h2
    cases hb
    exact ⟨lb_ok h h1, ub_ok h h2⟩
  · cases hb
/-- bounds of all elements a .. b, all of which are there -/
noncomputable def sgHull_a0 :=
  fun (tab : Tb) (e_409 : Ln) (ih : Nat → Nat → Option (Int × Int)) (b_412 : Nat) => ((joinB (bndL tab e_409) (ih (nat_lit 0) b_412)) : Option (Int × Int))
noncomputable def sgHull_a1 :=
  fun (ih : Nat → Nat → Option (Int × Int)) (e_1 : Nat) (m_414 : Nat) (e_2 : Nat) => ((ih (Nat.sub e_1 m_414) (Nat.sub e_2 m_414)) : Option (Int × Int))
noncomputable def sgHull_a2 :=
  fun (lo_416 : Int) (hi_417 : Int) (ih : Nat → Nat → Option (Int × Int)) (e_2 : Nat) (m_414 : Nat) => ((joinB (some (lo_416, hi_417)) (ih (nat_lit 0) (Nat.sub e_2 m_414))) : Option (Int × Int))
noncomputable def sgHull_a3 :=
  fun (lo_416 : Int) (hi_417 : Int) (ih : Nat → Nat → Option (Int × Int)) (e_2 : Nat) (m_414 : Nat) => ((Bool.rec (motive := fun _ => Option (Int × Int)) (sgHull_a2 lo_416 hi_417 ih e_2 m_414) (some (lo_416, hi_417)) (Nat.blt e_2 m_414)) : Option (Int × Int))
noncomputable def sgHull_a4 :=
  fun (ih : Nat → Nat → Option (Int × Int)) (e_1 : Nat) (m_414 : Nat) (e_2 : Nat) (lo_416 : Int) (hi_417 : Int) => ((Bool.rec (motive := fun _ => Option (Int × Int)) (sgHull_a1 ih e_1 m_414 e_2) (sgHull_a3 lo_416 hi_417 ih e_2 m_414) (Nat.blt e_1 m_414)) : Option (Int × Int))
noncomputable def sgHull (tab : Tb) : List Sg → Nat → Nat → Option (Int × Int) :=
  fun e_0 e_1 e_2 => List.rec (motive := fun _ => Nat → Nat → Option (Int × Int)) (fun e_1 e_2 => none) (fun h_0 t_0 ih e_1 e_2 => (Sum.rec (motive := fun _ => Option (Int × Int)) (fun e_409 => (Nat.rec (motive := fun _ => Option (Int × Int)) (Nat.rec (motive := fun _ => Option (Int × Int)) (bndL tab e_409) (fun b_412 _ => (sgHull_a0 tab e_409 ih b_412)) e_2) (fun a_411 _ => (Nat.rec (motive := fun _ => Option (Int × Int)) none (fun b_413 _ => (ih a_411 b_413)) e_2)) e_1)) (fun x_410 => (Prod.rec (motive := fun _ => Option (Int × Int)) (fun m_414 x_415 => (Prod.rec (motive := fun _ => Option (Int × Int)) (fun lo_416 hi_417 => (sgHull_a4 ih e_1 m_414 e_2 lo_416 hi_417)) x_415)) x_410)) h_0)) e_0 e_1 e_2
theorem sgHull_def (tab : Tb) (e_0 : List Sg) (e_1 : Nat) (e_2 : Nat) : sgHull tab e_0 e_1 e_2 = (match e_0, e_1, e_2 with
  | [], _, _ => none
  | .inl e :: r, a, b => match a, b with
    | 0, 0 => bndL tab e
    | 0, b + 1 => joinB (bndL tab e) (sgHull tab r 0 b)
    | a + 1, b + 1 => sgHull tab r a b
    | _ + 1, 0 => none
  | .inr (m, lo, hi) :: r, a, b => bif Nat.blt a m then (bif Nat.blt b m then some (lo, hi) else joinB (some (lo, hi)) (sgHull tab r 0 (Nat.sub b m))) else sgHull tab r (Nat.sub a m) (Nat.sub b m)) := by
  cases e_0 with
  | nil =>
    show none = _
    try simp only [iAddQ_eq, iMulQ_eq, iNegQ_eq, lenQ_eq, nthQ_eq, setQ_eq, appQ_eq, mapQ_eq, allQ_eq, anyQ_eq, dropQ_eq, takeQ_eq, revQ_eq, getDQ_eq, optLQ_eq, brecC]
    all_goals rfl
  | cons h_0 t_0 =>
    show (Sum.rec (motive := fun _ => Option (Int × Int)) (fun e_418 => (Nat.rec (motive := fun _ => Option (Int × Int)) (Nat.rec (motive := fun _ => Option (Int × Int)) (bndL tab e_418) (fun b_421 _ => (joinB (bndL tab e_418) (sgHull tab t_0 (nat_lit 0) b_421))) e_2) (fun a_420 _ => (Nat.rec (motive := fun _ => Option (Int × Int)) none (fun b_422 _ => (sgHull tab t_0 a_420 b_422)) e_2)) e_1)) (fun x_419 => (Prod.rec (motive := fun _ => Option (Int × Int)) (fun m_423 x_424 => (Prod.rec (motive := fun _ => Option (Int × Int)) (fun lo_425 hi_426 => (Bool.rec (motive := fun _ => Option (Int × Int)) (sgHull tab t_0 (Nat.sub e_1 m_423) (Nat.sub e_2 m_423)) (Bool.rec (motive := fun _ => Option (Int × Int)) (joinB (some (lo_425, hi_426)) (sgHull tab t_0 (nat_lit 0) (Nat.sub e_2 m_423))) (some (lo_425, hi_426)) (Nat.blt e_2 m_423)) (Nat.blt e_1 m_423))) x_424)) x_419)) h_0) = _
    try simp only [iAddQ_eq, iMulQ_eq, iNegQ_eq, lenQ_eq, nthQ_eq, setQ_eq, appQ_eq, mapQ_eq, allQ_eq, anyQ_eq, dropQ_eq, takeQ_eq, revQ_eq, getDQ_eq, optLQ_eq, brecC]
    all_goals
      cases h_0 with
      | inl y_427 =>
        try dsimp only [cond_false, cond_true]
        all_goals
          cases e_1 with
          | zero =>
            try dsimp only [cond_false, cond_true]
            all_goals
              cases e_2 with
              | zero =>
                try dsimp only [cond_false, cond_true]
                all_goals rfl
              | succ y_428 =>
                try dsimp only [cond_false, cond_true]
                all_goals rfl
          | succ y_429 =>
            try dsimp only [cond_false, cond_true]
            all_goals
              cases e_2 with
              | zero =>
                try dsimp only [cond_false, cond_true]
                all_goals rfl
              | succ y_430 =>
                try dsimp only [cond_false, cond_true]
                all_goals rfl
      | inr y_431 =>
        try dsimp only [cond_false, cond_true]
        all_goals
          cases y_431 with
          | mk y_432 y_433 =>
            try dsimp only [cond_false, cond_true]
            all_goals
              cases y_433 with
              | mk y_434 y_435 =>
                try dsimp only [cond_false, cond_true]
                all_goals
                  cases hq_7 : (Nat.blt e_1 y_432) with
                  | false =>
                    try dsimp only [cond_false, cond_true]
                    all_goals rfl
                  | true =>
                    try dsimp only [cond_false, cond_true]
                    all_goals
                      cases hq_8 : (Nat.blt e_2 y_432) with
                      | false =>
                        try dsimp only [cond_false, cond_true]
                        all_goals rfl
                      | true =>
                        try dsimp only [cond_false, cond_true]
                        all_goals rfl
theorem sgHull_ok {ρ : Nat → Int} {tab : Tb} (ht : tOk ρ tab) {s : List Sg} {l : List Int32} (h : srel ρ s l) {a b : Nat} {lo hi : Int} (ho : sgHull tab s a b = some (lo, hi)) (j : Nat) (h1 : a ≤ j) (h2 : j ≤ b) : ∃ x, l[j]? = some x ∧ lo ≤ x.toInt ∧ x.toInt ≤ hi := by
  induction s generalizing l a b lo hi j with
  | nil => cases ho
  | cons q r ih =>
    match q, h with
    | .inl e, ⟨x, l', e1, e2, h3⟩ =>
      subst e1
      rw [sgHull_def] at ho
      try dsimp only at ho
      split at ho
      · have : j = 0 := by omega
        subst this
        exact ⟨x, rfl, by rw [e2]; exact bndL_ok ht ho⟩
      · rename_i b
        obtain ⟨⟨l1, h1', q1, q2, q3⟩, ⟨l2, h2', q4, q5, q6⟩⟩ := joinB_ok ho
        cases j with
        | zero => have := bndL_ok ht q1; exact ⟨x, rfl, by omega⟩
        | succ j =>
          obtain ⟨y, y1, y2⟩ := ih h3 q4 j (by omega) (by omega)
          exact ⟨y, y1, by omega⟩
      · rename_i a b
        cases j with
        | zero => omega
        | succ j => exact ih h3 ho j (by omega) (by omega)
      · cases ho
    | .inr (m, lo', hi'), ⟨l1, l2, e1, e2, e3, h3⟩ =>
      subst e1
      rw [sgHull_def] at ho
      try dsimp only at ho
      have inl : j < m → ∃ x, (l1 ++ l2)[j]? = some x ∧ lo' ≤ x.toInt ∧ x.toInt ≤ hi' := fun hj => by
        refine ⟨l1[j]'(by omega), ?_, e3 _ (List.getElem_mem _)⟩
        rw [List.getElem?_append_left (by omega), List.getElem?_eq_getElem]
      have inr : ∀ {lo hi : Int}, m ≤ j → (∃ x, l2[j - m]? = some x ∧ lo ≤ x.toInt ∧ x.toInt ≤ hi) → ∃ x, (l1 ++ l2)[j]? = some x ∧ lo ≤ x.toInt ∧ x.toInt ≤ hi := fun hj hx => by
        obtain ⟨x, x1, x2⟩ := hx
        refine ⟨x, ?_, x2⟩
        rw [List.getElem?_append_right (by omega), e2]
        exact x1
      cases h4 : Nat.blt a m with
      | true =>
        rw [h4] at ho
        have h5 := blt_iff.mp h4
        cases h6 : Nat.blt b m with
        | true =>
          rw [h6] at ho
          have h7 := blt_iff.mp h6
          cases ho
          exact inl (by omega)
        | false =>
          rw [h6] at ho
          have h7 := blt_f h6
          simp only [cond_true, cond_false] at ho
          obtain ⟨⟨p1, p2, q1, q2, q3⟩, ⟨p3, p4, q4, q5, q6⟩⟩ := joinB_ok ho
          cases q1
          by_cases hj : j < m
          · obtain ⟨x, x1, x2⟩ := inl hj
            exact ⟨x, x1, by omega⟩
          · obtain ⟨x, x1, x2⟩ := inr (by omega) (ih h3 q4 (j - m) (by omega) (by show j - m ≤ b - m; omega))
            exact ⟨x, x1, by omega⟩
      | false =>
        rw [h4] at ho
        have h5 := blt_f h4
        exact inr (by omega) (ih h3 ho (j - m) (by show a - m ≤ j - m; omega) (by show j - m ≤ b - m; omega))
/-- element k is v from now on -/
noncomputable def sgSet_a0 :=
  fun (m_440 : Nat) (lo_442 : Int) (hi_443 : Int) (q_444 : (List Sg)) => ((some ((.inr (m_440, lo_442, hi_443)) :: q_444)) : Option (List Sg))
noncomputable def sgSet_a1 :=
  fun (e_1 : Nat) (lo_442 : Int) (hi_443 : Int) (v : Ln) (m_440 : Nat) (t_0 : List Sg) => ((some ((.inr (e_1, lo_442, hi_443)) :: ((.inl v) :: ((.inr ((Nat.sub m_440 (Nat.succ e_1)), lo_442, hi_443)) :: t_0)))) : Option (List Sg))
noncomputable def sgSet_a2 :=
  fun (m_440 : Nat) (lo_442 : Int) (hi_443 : Int) (t_0 : List Sg) => ((some ((.inr (m_440, lo_442, hi_443)) :: t_0)) : Option (List Sg))
noncomputable def sgSet_a3 :=
  fun (e_1 : Nat) (lo_442 : Int) (hi_443 : Int) (v : Ln) (m_440 : Nat) (t_0 : List Sg) (tab : Tb) (fs : List Ln) => ((Bool.rec (motive := fun _ => Option (List Sg)) (sgSet_a1 e_1 lo_442 hi_443 v m_440 t_0) (sgSet_a2 m_440 lo_442 hi_443 t_0) (inF tab fs lo_442 hi_443 v)) : Option (List Sg))
noncomputable def sgSet (tab : Tb) (fs : List Ln) (v : Ln) : List Sg → Nat → Option (List Sg) :=
  fun e_0 e_1 => List.rec (motive := fun _ => Nat → Option (List Sg)) (fun e_1 => none) (fun h_0 t_0 ih e_1 => (Sum.rec (motive := fun _ => Option (List Sg)) (fun e_436 => (Nat.rec (motive := fun _ => Option (List Sg)) (some ((.inl v) :: t_0)) (fun k_438 _ => (Option.rec (motive := fun _ => Option (List Sg)) none (fun q_439 => (some ((.inl e_436) :: q_439))) (ih k_438))) e_1)) (fun x_437 => (Prod.rec (motive := fun _ => Option (List Sg)) (fun m_440 x_441 => (Prod.rec (motive := fun _ => Option (List Sg)) (fun lo_442 hi_443 => (Bool.rec (motive := fun _ => Option (List Sg)) (Option.rec (motive := fun _ => Option (List Sg)) none (fun q_444 => (sgSet_a0 m_440 lo_442 hi_443 q_444)) (ih (Nat.sub e_1 m_440))) (sgSet_a3 e_1 lo_442 hi_443 v m_440 t_0 tab fs) (Nat.blt e_1 m_440))) x_441)) x_437)) h_0)) e_0 e_1
theorem sgSet_def (tab : Tb) (fs : List Ln) (v : Ln) (e_0 : List Sg) (e_1 : Nat) : sgSet tab fs v e_0 e_1 = (match e_0, e_1 with
  | [], _ => none
  | .inl e :: r, k => match k with
    | 0 => some (.inl v :: r)
    | k + 1 => (match sgSet tab fs v r k with
      | some q => some (.inl e :: q)
      | none => none)
  | .inr (m, lo, hi) :: r, k => bif Nat.blt k m then (bif inF tab fs lo hi v then some (.inr (m, lo, hi) :: r) else some (.inr (k, lo, hi) :: .inl v :: .inr (Nat.sub m (Nat.succ k), lo, hi) :: r)) else (match sgSet tab fs v r (Nat.sub k m) with
    | some q => some (.inr (m, lo, hi) :: q)
    | none => none)) := by
  cases e_0 with
  | nil =>
    show none = _
    try simp only [iAddQ_eq, iMulQ_eq, iNegQ_eq, lenQ_eq, nthQ_eq, setQ_eq, appQ_eq, mapQ_eq, allQ_eq, anyQ_eq, dropQ_eq, takeQ_eq, revQ_eq, getDQ_eq, optLQ_eq, brecC]
    all_goals rfl
  | cons h_0 t_0 =>
    show (Sum.rec (motive := fun _ => Option (List Sg)) (fun e_445 => (Nat.rec (motive := fun _ => Option (List Sg)) (some ((.inl v) :: t_0)) (fun k_447 _ => (Option.rec (motive := fun _ => Option (List Sg)) none (fun q_448 => (some ((.inl e_445) :: q_448))) (sgSet tab fs v t_0 k_447))) e_1)) (fun x_446 => (Prod.rec (motive := fun _ => Option (List Sg)) (fun m_449 x_450 => (Prod.rec (motive := fun _ => Option (List Sg)) (fun lo_451 hi_452 => (Bool.rec (motive := fun _ => Option (List Sg)) (Option.rec (motive := fun _ => Option (List Sg)) none (fun q_453 => (some ((.inr (m_449, lo_451, hi_452)) :: q_453))) (sgSet tab fs v t_0 (Nat.sub e_1 m_449))) (Bool.rec (motive := fun _ => Option (List Sg)) (some ((.inr (e_1, lo_451, hi_452)) :: ((.inl v) :: ((.inr ((Nat.sub m_449 (Nat.succ e_1)), lo_451, hi_452)) :: t_0)))) (some ((.inr (m_449, lo_451, hi_452)) :: t_0)) (inF tab fs lo_451 hi_452 v)) (Nat.blt e_1 m_449))) x_450)) x_446)) h_0) = _
    try simp only [iAddQ_eq, iMulQ_eq, iNegQ_eq, lenQ_eq, nthQ_eq, setQ_eq, appQ_eq, mapQ_eq, allQ_eq, anyQ_eq, dropQ_eq, takeQ_eq, revQ_eq, getDQ_eq, optLQ_eq, brecC]
    all_goals
      cases h_0 with
      | inl y_454 =>
        try dsimp only [cond_false, cond_true]
        all_goals
          cases e_1 with
          | zero =>
            try dsimp only [cond_false, cond_true]
            all_goals rfl
          | succ y_455 =>
            try dsimp only [cond_false, cond_true]
            all_goals
              cases hq_3 : (sgSet tab fs v t_0 y_455) with
              | none =>
                try dsimp only [cond_false, cond_true]
                all_goals rfl
              | some y_456 =>
                try dsimp only [cond_false, cond_true]
                all_goals rfl
      | inr y_457 =>
        try dsimp only [cond_false, cond_true]
        all_goals
          cases y_457 with
          | mk y_458 y_459 =>
            try dsimp only [cond_false, cond_true]
            all_goals
              cases y_459 with
              | mk y_460 y_461 =>
                try dsimp only [cond_false, cond_true]
                all_goals
                  cases hq_6 : (Nat.blt e_1 y_458) with
                  | false =>
                    try dsimp only [cond_false, cond_true]
                    all_goals
                      cases hq_7 : (sgSet tab fs v t_0 ((Nat.sub e_1 y_458))) with
                      | none =>
                        try dsimp only [cond_false, cond_true]
                        all_goals rfl
                      | some y_462 =>
                        try dsimp only [cond_false, cond_true]
                        all_goals rfl
                  | true =>
                    try dsimp only [cond_false, cond_true]
                    all_goals
                      cases hq_8 : (inF tab fs y_460 y_461 v) with
                      | false =>
                        try dsimp only [cond_false, cond_true]
                        all_goals rfl
                      | true =>
                        try dsimp only [cond_false, cond_true]
                        all_goals rfl
theorem set_app_l {l1 l2 : List Int32} {k : Nat} {x : Int32} (h : k < l1.length) : (l1 ++ l2).set k x = l1.set k x ++ l2 := List.set_append_left _ _ h
theorem set_app_r {l1 l2 : List Int32} {k : Nat} {x : Int32} (h : l1.length ≤ k) : (l1 ++ l2).set k x = l1 ++ l2.set (k - l1.length) x := List.set_append_right _ _ h
theorem sgSet_ok {ρ : Nat → Int} {tab : Tb} {fs : List Ln} (ht : tOk ρ tab) (hf : fOk ρ fs) {v : Ln} {x : Int32} (hx : x.toInt = ev ρ v) {s s' : List Sg} {l : List Int32} (h : srel ρ s l) {k : Nat} (ho : sgSet tab fs v s k = some s') : k < l.length ∧ srel ρ s' (l.set k x) := by
  induction s generalizing l k s' with
  | nil => cases ho
  | cons q r ih =>
    match q, h with
    | .inl e, ⟨y, l', e1, e2, h3⟩ =>
      subst e1
      cases k with
      | zero => cases ho; exact ⟨Nat.zero_lt_succ _, x, l', rfl, hx, h3⟩
      | succ k =>
        rw [sgSet_def] at ho
        try dsimp only at ho
        try dsimp only at ho
        cases h4 : sgSet tab fs v r k with
        | none => rw [h4] at ho; cases ho
        | some s2 =>
          rw [h4] at ho
          cases ho
          have h5 := ih h3 h4
          exact ⟨Nat.succ_lt_succ h5.1, y, l'.set k x, rfl, e2, h5.2⟩
    | .inr (m, lo, hi), ⟨l1, l2, e1, e2, e3, h3⟩ =>
      subst e1
      rw [sgSet_def] at ho
      try dsimp only at ho
      cases h4 : Nat.blt k m with
      | true =>
        rw [h4] at ho
        have h5 := blt_iff.mp h4
        refine ⟨by rw [List.length_append]; omega, ?_⟩
        rw [set_app_l (by omega)]
        cases h6 : inF tab fs lo hi v with
        | true =>
          rw [h6] at ho
          cases ho
          have h7 := inF_ok ht hf h6
          refine ⟨l1.set k x, l2, rfl, by rw [List.length_set, e2], fun y hy => ?_, h3⟩
          rcases List.mem_or_eq_of_mem_set hy with q | q
          · exact e3 y q
          · subst q; rw [hx]; exact h7
        | false =>
          rw [h6] at ho
          cases ho
          refine ⟨l1.take k, x :: (l1.drop (k + 1) ++ l2), ?_, by rw [List.length_take]; omega, fun y hy => e3 y (List.mem_of_mem_take hy), x, l1.drop (k + 1) ++ l2, rfl, hx, l1.drop (k + 1), l2, rfl, by rw [List.length_drop, e2]; rfl, fun y hy => e3 y (List.mem_of_mem_drop hy), h3⟩
          rw [List.set_eq_take_append_cons_drop, if_pos (by omega)]
          simp
      | false =>
        rw [h4] at ho
        have h5 := blt_f h4
        cases h6 : sgSet tab fs v r (Nat.sub k m) with
        | none => rw [h6] at ho; cases ho
        | some s2 =>
          rw [h6] at ho
          cases ho
          have h7 := ih h3 h6
          have e4 : Nat.sub k m = k - l1.length := by rw [e2]; rfl
          rw [e4] at h7
          refine ⟨by rw [List.length_append]; omega, ?_⟩
          rw [set_app_r (by omega)]
          exact ⟨l1, _, rfl, e2, e3, h7.2⟩
/-- v may be put at any place a .. b -/
noncomputable def sgFit_a0 :=
  fun (ih : Nat → Nat → Bool) (e_1 : Nat) (m_467 : Nat) (e_2 : Nat) => ((ih (Nat.sub e_1 m_467) (Nat.sub e_2 m_467)) : Bool)
noncomputable def sgFit_a1 :=
  fun (ih : Nat → Nat → Bool) (e_2 : Nat) (m_467 : Nat) => ((ih (nat_lit 0) (Nat.sub e_2 m_467)) : Bool)
noncomputable def sgFit_a2 :=
  fun (ih : Nat → Nat → Bool) (e_2 : Nat) (m_467 : Nat) => ((Bool.rec (motive := fun _ => Bool) (sgFit_a1 ih e_2 m_467) true (Nat.blt e_2 m_467)) : Bool)
noncomputable def sgFit_a3 :=
  fun (ih : Nat → Nat → Bool) (e_2 : Nat) (m_467 : Nat) (tab : Tb) (fs : List Ln) (lo_469 : Int) (hi_470 : Int) (v : Ln) => ((Bool.rec (motive := fun _ => Bool) false (sgFit_a2 ih e_2 m_467) (inF tab fs lo_469 hi_470 v)) : Bool)
noncomputable def sgFit_a4 :=
  fun (ih : Nat → Nat → Bool) (e_1 : Nat) (m_467 : Nat) (e_2 : Nat) (tab : Tb) (fs : List Ln) (lo_469 : Int) (hi_470 : Int) (v : Ln) => ((Bool.rec (motive := fun _ => Bool) (sgFit_a0 ih e_1 m_467 e_2) (sgFit_a3 ih e_2 m_467 tab fs lo_469 hi_470 v) (Nat.blt e_1 m_467)) : Bool)
noncomputable def sgFit (tab : Tb) (fs : List Ln) (v : Ln) : List Sg → Nat → Nat → Bool :=
  fun e_0 e_1 e_2 => List.rec (motive := fun _ => Nat → Nat → Bool) (fun e_1 e_2 => false) (fun h_0 t_0 ih e_1 e_2 => (Sum.rec (motive := fun _ => Bool) (fun x_463 => (Nat.rec (motive := fun _ => Bool) false (fun a_465 _ => (Nat.rec (motive := fun _ => Bool) false (fun b_466 _ => (ih a_465 b_466)) e_2)) e_1)) (fun x_464 => (Prod.rec (motive := fun _ => Bool) (fun m_467 x_468 => (Prod.rec (motive := fun _ => Bool) (fun lo_469 hi_470 => (sgFit_a4 ih e_1 m_467 e_2 tab fs lo_469 hi_470 v)) x_468)) x_464)) h_0)) e_0 e_1 e_2
theorem sgFit_def (tab : Tb) (fs : List Ln) (v : Ln) (e_0 : List Sg) (e_1 : Nat) (e_2 : Nat) : sgFit tab fs v e_0 e_1 e_2 = (match e_0, e_1, e_2 with
  | [], _, _ => false
  | .inl _ :: r, a, b => match a, b with
    | a + 1, b + 1 => sgFit tab fs v r a b
    | _, _ => false
  | .inr (m, lo, hi) :: r, a, b => bif Nat.blt a m then (bif inF tab fs lo hi v then (bif Nat.blt b m then true else sgFit tab fs v r 0 (Nat.sub b m)) else false) else sgFit tab fs v r (Nat.sub a m) (Nat.sub b m)) := by
  cases e_0 with
  | nil =>
    show false = _
    try simp only [iAddQ_eq, iMulQ_eq, iNegQ_eq, lenQ_eq, nthQ_eq, setQ_eq, appQ_eq, mapQ_eq, allQ_eq, anyQ_eq, dropQ_eq, takeQ_eq, revQ_eq, getDQ_eq, optLQ_eq, brecC]
    all_goals rfl
  | cons h_0 t_0 =>
    show (Sum.rec (motive := fun _ => Bool) (fun x_471 => (Nat.rec (motive := fun _ => Bool) false (fun a_473 _ => (Nat.rec (motive := fun _ => Bool) false (fun b_474 _ => (sgFit tab fs v t_0 a_473 b_474)) e_2)) e_1)) (fun x_472 => (Prod.rec (motive := fun _ => Bool) (fun m_475 x_476 => (Prod.rec (motive := fun _ => Bool) (fun lo_477 hi_478 => (Bool.rec (motive := fun _ => Bool) (sgFit tab fs v t_0 (Nat.sub e_1 m_475) (Nat.sub e_2 m_475)) (Bool.rec (motive := fun _ => Bool) false (Bool.rec (motive := fun _ => Bool) (sgFit tab fs v t_0 (nat_lit 0) (Nat.sub e_2 m_475)) true (Nat.blt e_2 m_475)) (inF tab fs lo_477 hi_478 v)) (Nat.blt e_1 m_475))) x_476)) x_472)) h_0) = _
    try simp only [iAddQ_eq, iMulQ_eq, iNegQ_eq, lenQ_eq, nthQ_eq, setQ_eq, appQ_eq, mapQ_eq, allQ_eq, anyQ_eq, dropQ_eq, takeQ_eq, revQ_eq, getDQ_eq, optLQ_eq, brecC]
    all_goals
      cases h_0 with
      | inl y_479 =>
        try dsimp only [cond_false, cond_true]
        all_goals
          cases e_1 with
          | zero =>
            try dsimp only [cond_false, cond_true]
            all_goals rfl
          | succ y_480 =>
            try dsimp only [cond_false, cond_true]
            all_goals
              cases e_2 with
              | zero =>
                try dsimp only [cond_false, cond_true]
                all_goals rfl
              | succ y_481 =>
                try dsimp only [cond_false, cond_true]
                all_goals rfl
      | inr y_482 =>
        try dsimp only [cond_false, cond_true]
        all_goals
          cases y_482 with
          | mk y_483 y_484 =>
            try dsimp only [cond_false, cond_true]
            all_goals
              cases y_484 with
              | mk y_485 y_486 =>
                try dsimp only [cond_false, cond_true]
                all_goals
                  cases hq_6 : (Nat.blt e_1 y_483) with
                  | false =>
                    try dsimp only [cond_false, cond_true]
                    all_goals rfl
                  | true =>
                    try dsimp only [cond_false, cond_true]
                    all_goals
                      cases hq_7 : (inF tab fs y_485 y_486 v) with
                      | false =>
                        try dsimp only [cond_false, cond_true]
                        all_goals rfl
                      | true =>
                        try dsimp only [cond_false, cond_true]
                        all_goals
                          cases hq_8 : (Nat.blt e_2 y_483) with
                          | false =>
                            try dsimp only [cond_false, cond_true]
                            all_goals rfl
                          | true =>
                            try dsimp only [cond_false, cond_true]
                            all_goals rfl
theorem sgFit_ok {ρ : Nat → Int} {tab : Tb} {fs : List Ln} (ht : tOk ρ tab) (hf : fOk ρ fs) {v : Ln} {x : Int32} (hx : x.toInt = ev ρ v) {s : List Sg} {l : List Int32} (h : srel ρ s l) {a b : Nat} (ho : sgFit tab fs v s a b = true) (j : Nat) (h1 : a ≤ j) (h2 : j ≤ b) : j < l.length ∧ srel ρ s (l.set j x) := by
  induction s generalizing l a b j with
  | nil => cases ho
  | cons q r ih =>
    match q, h with
    | .inl e, ⟨y, l', e1, e2, h3⟩ =>
      subst e1
      rw [sgFit_def] at ho
      try dsimp only at ho
      split at ho
      · rename_i a b
        cases j with
        | zero => omega
        | succ j =>
          have h5 := ih h3 ho j (by omega) (by omega)
          exact ⟨Nat.succ_lt_succ h5.1, y, l'.set j x, rfl, e2, h5.2⟩
      · cases ho
    | .inr (m, lo, hi), ⟨l1, l2, e1, e2, e3, h3⟩ =>
      subst e1
      rw [sgFit_def] at ho
      try dsimp only at ho
      have inl : j < m → inF tab fs lo hi v = true → j < (l1 ++ l2).length ∧ srel ρ (.inr (m, lo, hi) :: r) ((l1 ++ l2).set j x) := fun hj hr => by
        refine ⟨by rw [List.length_append]; omega, ?_⟩
        rw [set_app_l (by omega)]
        have h7 := inF_ok ht hf hr
        refine ⟨l1.set j x, l2, rfl, by rw [List.length_set, e2], fun y hy => ?_, h3⟩
        rcases List.mem_or_eq_of_mem_set hy with q | q
        · exact e3 y q
        · subst q; rw [hx]; exact h7
      have inr : m ≤ j → (j - m < l2.length ∧ srel ρ r (l2.set (j - m) x)) → j < (l1 ++ l2).length ∧ srel ρ (.inr (m, lo, hi) :: r) ((l1 ++ l2).set j x) := fun hj hx => by
        refine ⟨by rw [List.length_append]; omega, ?_⟩
        rw [set_app_r (by omega), e2]
        exact ⟨l1, _, rfl, e2, e3, hx.2⟩
      cases h4 : Nat.blt a m with
      | true =>
        rw [h4] at ho
        have h5 := blt_iff.mp h4
        cases h6 : inF tab fs lo hi v with
        | false => rw [h6] at ho; cases ho
        | true =>
          rw [h6] at ho
          by_cases hj : j < m
          · exact inl hj h6
          · cases h8 : Nat.blt b m with
            | true => have h9 := blt_iff.mp h8; omega
            | false =>
              rw [h8] at ho
              exact inr (by omega) (ih h3 ho (j - m) (by omega) (by show j - m ≤ b - m; omega))
      | false =>
        rw [h4] at ho
        have h5 := blt_f h4
        exact inr (by omega) (ih h3 ho (j - m) (by show a - m ≤ j - m; omega) (by show j - m ≤ b - m; omega))
-- cells
abbrev AC : Type := (Nat × List AV) ⊕ (Nat × (List Sg ⊕ (Nat ⊕ List (Option Nat))))
abbrev AH : Type := List AC
abbrev AL : Type := List (Nat × AV)
/-- a whole row as one number: a row of which nothing is known but that it is the same as another -/
noncomputable def encN : List Int32 → Nat
  | [] => 0
  | x :: r => 1 + ((x.toInt + 2147483648).toNat + 4294967296 * encN r)
theorem encN_inj {a b : List Int32} (h : encN a = encN b) : a = b := by
  induction a generalizing b with
  | nil =>
    cases b with
    | nil => rfl
    | cons y q => unfold encN at h; omega
  | cons x r ih =>
    cases b with
    | nil => unfold encN at h; omega
    | cons y q =>
      unfold encN at h
      have hx := in32 x
      have hy := in32 y
      have e1 : lo32 = -2147483648 := rfl
      have e2 : hi32 = 2147483647 := rfl
      have h1 : x.toInt = y.toInt := by omega
      have h2 : encN r = encN q := by omega
      rw [ih h2, Int32.toInt_inj.mp h1]
noncomputable def conR (ρ : Nat → Int) (s : List Sg) (l : List Int32) : Prop := match s with
  | [.inl e] => (encN l : Int) = ev ρ e
  | _ => False
/-- an int array: k below 100 by segments, from 100 on (kind k - 100) as one number -/
noncomputable def arel (ρ : Nat → Int) (k : Nat) (s : List Sg) (c : SC) : Prop :=
  if k < 100 then ∃ l, c = .inr (k, .inl l) ∧ srel ρ s l else ∃ l, c = .inr (k - 100, .inl l) ∧ conR ρ s l
-- long rows: their length; from zB on: all zero
noncomputable def zB : Nat := 1000000000
noncomputable def jLen (m : Nat) : Nat := Nat.mod m zB
theorem zB_pos : 0 < zB := Nat.le_of_ble_eq_true rfl
theorem jLen_lt {m : Nat} (h : Nat.blt m zB = true) : jLen m = m := Nat.mod_eq_of_lt (blt_iff.mp h)
theorem jLen_small (m : Nat) : jLen m < zB := Nat.mod_lt m zB_pos
theorem jLen_add {x : Nat} (h : x < zB) : jLen (Nat.add zB x) = x := by
  have e : jLen (Nat.add zB x) = (zB + x) % zB := rfl
  rw [e, Nat.add_mod_left, Nat.mod_eq_of_lt h]
noncomputable def jOk (m : Nat) (l : List Int64) : Prop := l.length = jLen m ∧ (Nat.blt m zB = false → ∀ x ∈ l, x = 0)
noncomputable def crel (ρ : Nat → Int) (c : SC) (a : AC) : Prop := match a with
  | .inl (ci, as) => ∃ fs, c = .inl (ci, fs) ∧ rel2 (vrel ρ) fs as
  | .inr (k, .inl s) => arel ρ k s c
  | .inr (k, .inr (.inl m)) => ∃ l : List Int64, c = .inr (k, .inr (.inl l)) ∧ jOk m l
  | .inr (k, .inr (.inr q)) => c = .inr (k, .inr (.inr q))
theorem arel_mk {ρ : Nat → Int} {k : Nat} {s : List Sg} {l : List Int32} (hk : k < 100) (h : srel ρ s l) : arel ρ k s (.inr (k, .inl l)) := by
  unfold arel
  rw [if_pos hk]
  exact ⟨l, rfl, h⟩
theorem arel_any {ρ : Nat → Int} {k : Nat} {s : List Sg} {c : SC} (h : arel ρ k s c) : ∃ (k' : Nat) (l : List Int32), c = .inr (k', .inl l) := by
  unfold arel at h
  split at h
  · obtain ⟨l, e, -⟩ := h; exact ⟨_, l, e⟩
  · obtain ⟨l, e, -⟩ := h; exact ⟨_, l, e⟩
noncomputable def lvR (ρ : Nat → Int) (lv : LV) (al : AL) : Prop := ∀ q ∈ al, ∃ v, lvGet lv q.1 = some v ∧ vrel ρ v q.2
noncomputable def catA_a0 :=
  fun (x_493 : Bool) => ((Bool.rec (motive := fun _ => Nat) (nat_lit 1) (nat_lit 2) x_493) : Nat)
noncomputable def catA (a : AV) : Nat :=
  (Sum.rec (motive := fun _ => Nat) (fun x_491 => (Prod.rec (motive := fun _ => Nat) (fun x_493 x_494 => (catA_a0 x_493)) x_491)) (fun x_492 => (nat_lit 1)) a)
theorem catA_def (a : AV) : catA a = (match a with
  | .inl (true, _) => 2
  | _ => 1) := by
  show (Sum.rec (motive := fun _ => Nat) (fun x_487 => (Prod.rec (motive := fun _ => Nat) (fun x_489 x_490 => (Bool.rec (motive := fun _ => Nat) (nat_lit 1) (nat_lit 2) x_489)) x_487)) (fun x_488 => (nat_lit 1)) a) = _
  try simp only [iAddQ_eq, iMulQ_eq, iNegQ_eq, lenQ_eq, nthQ_eq, setQ_eq, appQ_eq, mapQ_eq, allQ_eq, anyQ_eq, dropQ_eq, takeQ_eq, revQ_eq, getDQ_eq, optLQ_eq, brecC]
  all_goals
    cases a with
    | inl y_495 =>
      try dsimp only [cond_false, cond_true]
      all_goals
        cases y_495 with
        | mk y_496 y_497 =>
          try dsimp only [cond_false, cond_true]
          all_goals
            cases y_496 with
            | false =>
              try dsimp only [cond_false, cond_true]
              all_goals rfl
            | true =>
              try dsimp only [cond_false, cond_true]
              all_goals rfl
    | inr y_498 =>
      try dsimp only [cond_false, cond_true]
      all_goals rfl
theorem catA_ok {ρ : Nat → Int} {v : Value} {a : AV} (h : vrel ρ v a) : v.category = catA a := by
  match a, h with
  | .inl (false, e), ⟨x, e1, _⟩ => subst e1; rfl
  | .inl (true, e), ⟨x, e1, _⟩ => subst e1; rfl
  | .inr (.inl (some i)), e1 => rw [show v = .ref i from e1]; rfl
  | .inr (.inl none), e1 => rw [show v = .null from e1]; rfl
  | .inr (.inr (p, q)), e1 => rw [show v = .int _ from e1]; rfl
noncomputable def okVA_a0 :=
  fun (i_508 : Nat) (n : Nat) => ((Bool.rec (motive := fun _ => Bool) (Nat.beq i_508 sIdx) true (Nat.blt i_508 n)) : Bool)
noncomputable def okVA (n : Nat) (a : AV) : Bool :=
  (Sum.rec (motive := fun _ => Bool) (fun x_504 => true) (fun x_505 => (Sum.rec (motive := fun _ => Bool) (fun x_506 => (Option.rec (motive := fun _ => Bool) true (fun i_508 => (okVA_a0 i_508 n)) x_506)) (fun x_507 => true) x_505)) a)
theorem okVA_def (n : Nat) (a : AV) : okVA n a = (match a with
  | .inr (.inl (some i)) => bif Nat.blt i n then true else Nat.beq i sIdx
  | _ => true) := by
  show (Sum.rec (motive := fun _ => Bool) (fun x_499 => true) (fun x_500 => (Sum.rec (motive := fun _ => Bool) (fun x_501 => (Option.rec (motive := fun _ => Bool) true (fun i_503 => (Bool.rec (motive := fun _ => Bool) (Nat.beq i_503 sIdx) true (Nat.blt i_503 n))) x_501)) (fun x_502 => true) x_500)) a) = _
  try simp only [iAddQ_eq, iMulQ_eq, iNegQ_eq, lenQ_eq, nthQ_eq, setQ_eq, appQ_eq, mapQ_eq, allQ_eq, anyQ_eq, dropQ_eq, takeQ_eq, revQ_eq, getDQ_eq, optLQ_eq, brecC]
  all_goals
    cases a with
    | inl y_509 =>
      try dsimp only [cond_false, cond_true]
      all_goals rfl
    | inr y_510 =>
      try dsimp only [cond_false, cond_true]
      all_goals
        cases y_510 with
        | inl y_511 =>
          try dsimp only [cond_false, cond_true]
          all_goals
            cases y_511 with
            | none =>
              try dsimp only [cond_false, cond_true]
              all_goals rfl
            | some y_512 =>
              try dsimp only [cond_false, cond_true]
              all_goals
                cases hq_4 : (Nat.blt y_512 n) with
                | false =>
                  try dsimp only [cond_false, cond_true]
                  all_goals rfl
                | true =>
                  try dsimp only [cond_false, cond_true]
                  all_goals rfl
        | inr y_513 =>
          try dsimp only [cond_false, cond_true]
          all_goals rfl
theorem okVA_ok {ρ : Nat → Int} {n : Nat} {v : Value} {a : AV} (h : vrel ρ v a) (ha : okVA n a = true) : okV n v = true := by
  match a, h with
  | .inl (false, e), ⟨x, e1, _⟩ => subst e1; rfl
  | .inl (true, e), ⟨x, e1, _⟩ => subst e1; rfl
  | .inr (.inl (some i)), e1 =>
    rw [show v = .ref i from e1]
    simp only [okV, Bool.or_eq_true, decide_eq_true_eq, beq_iff_eq]
    rw [okVA_def] at ha
    cases h1 : Nat.blt i n with
    | true => exact Or.inl (blt_iff.mp h1)
    | false => simp only [h1] at ha; exact Or.inr (Nat.eq_of_beq_eq_true ha)
  | .inr (.inl none), e1 => rw [show v = .null from e1]; rfl
  | .inr (.inr (p, q)), e1 => rw [show v = .int _ from e1]; rfl
noncomputable def alGet_a0 :=
  fun (ih : Option AV) (a_515 : AV) (k : Nat) (j_514 : Nat) => ((Bool.rec (motive := fun _ => Option AV) (ih) (some a_515) (Nat.beq k j_514)) : Option AV)
noncomputable def alGet (k : Nat) : AL → Option AV :=
  fun e_0 => List.rec (motive := fun _ => Option AV) none (fun h_0 t_0 ih => (Prod.rec (motive := fun _ => Option AV) (fun j_514 a_515 => (alGet_a0 ih a_515 k j_514)) h_0)) e_0 
theorem alGet_def (k : Nat) (e_0 : AL) : alGet k e_0 = (match e_0 with
  | [] => none
  | (j, a) :: r => bif Nat.beq k j then some a else alGet k r) := by
  cases e_0 with
  | nil =>
    show none = _
    try simp only [iAddQ_eq, iMulQ_eq, iNegQ_eq, lenQ_eq, nthQ_eq, setQ_eq, appQ_eq, mapQ_eq, allQ_eq, anyQ_eq, dropQ_eq, takeQ_eq, revQ_eq, getDQ_eq, optLQ_eq, brecC]
    all_goals rfl
  | cons h_0 t_0 =>
    show (Prod.rec (motive := fun _ => Option AV) (fun j_516 a_517 => (Bool.rec (motive := fun _ => Option AV) (alGet k t_0) (some a_517) (Nat.beq k j_516))) h_0) = _
    try simp only [iAddQ_eq, iMulQ_eq, iNegQ_eq, lenQ_eq, nthQ_eq, setQ_eq, appQ_eq, mapQ_eq, allQ_eq, anyQ_eq, dropQ_eq, takeQ_eq, revQ_eq, getDQ_eq, optLQ_eq, brecC]
    all_goals
      cases h_0 with
      | mk y_518 y_519 =>
        try dsimp only [cond_false, cond_true]
        all_goals
          cases hq_2 : (Nat.beq k y_518) with
          | false =>
            try dsimp only [cond_false, cond_true]
            all_goals rfl
          | true =>
            try dsimp only [cond_false, cond_true]
            all_goals rfl
theorem alGet_mem {k : Nat} {al : AL} {a : AV} (h : alGet k al = some a) : (k, a) ∈ al := by
  induction al with
  | nil => cases h
  | cons q r ih =>
    obtain ⟨j, b⟩ := q
    rw [alGet_def] at h
    try dsimp only at h
    cases h1 : Nat.beq k j with
    | true => rw [h1] at h; cases h; rw [Nat.eq_of_beq_eq_true h1]; exact List.mem_cons_self
    | false => rw [h1] at h; exact List.mem_cons_of_mem _ (ih h)
theorem lvR_get {ρ : Nat → Int} {lv : LV} {al : AL} (h : lvR ρ lv al) {k : Nat} {a : AV} (hg : alGet k al = some a) : ∃ v, lvGet lv k = some v ∧ vrel ρ v a := h (k, a) (alGet_mem hg)
/-- the locals k (and k + 1, and a long that reaches into k) go -/
noncomputable def alDel_a0 :=
  fun (j_520 : Nat) (a_521 : AV) (ih : AL) (k : Nat) => ((Bool.rec (motive := fun _ => AL) ((j_520, a_521) :: (ih)) (ih) (Bool.rec (motive := fun _ => Bool) false (Nat.beq (catA a_521) (nat_lit 2)) (Nat.beq (Nat.succ j_520) k))) : AL)
noncomputable def alDel_a1 :=
  fun (j_520 : Nat) (a_521 : AV) (ih : AL) (k : Nat) (two : Bool) => ((Bool.rec (motive := fun _ => AL) (alDel_a0 j_520 a_521 ih k) (ih) (Bool.rec (motive := fun _ => Bool) false (Nat.beq j_520 (Nat.succ k)) two)) : AL)
noncomputable def alDel_a2 :=
  fun (j_520 : Nat) (a_521 : AV) (ih : AL) (k : Nat) (two : Bool) => ((Bool.rec (motive := fun _ => AL) (alDel_a1 j_520 a_521 ih k two) (ih) (Nat.beq j_520 k)) : AL)
noncomputable def alDel (two : Bool) (k : Nat) : AL → AL :=
  fun e_0 => List.rec (motive := fun _ => AL) [] (fun h_0 t_0 ih => (Prod.rec (motive := fun _ => AL) (fun j_520 a_521 => (alDel_a2 j_520 a_521 ih k two)) h_0)) e_0 
theorem alDel_def (two : Bool) (k : Nat) (e_0 : AL) : alDel two k e_0 = (match e_0 with
  | [] => []
  | (j, a) :: r => bif Nat.beq j k then alDel two k r else bif (bif two then Nat.beq j (Nat.succ k) else false) then alDel two k r else bif (bif Nat.beq (Nat.succ j) k then Nat.beq (catA a) 2 else false) then alDel two k r else (j, a) :: alDel two k r) := by
  cases e_0 with
  | nil =>
    show [] = _
    try simp only [iAddQ_eq, iMulQ_eq, iNegQ_eq, lenQ_eq, nthQ_eq, setQ_eq, appQ_eq, mapQ_eq, allQ_eq, anyQ_eq, dropQ_eq, takeQ_eq, revQ_eq, getDQ_eq, optLQ_eq, brecC]
    all_goals rfl
  | cons h_0 t_0 =>
    show (Prod.rec (motive := fun _ => AL) (fun j_522 a_523 => (Bool.rec (motive := fun _ => AL) (Bool.rec (motive := fun _ => AL) (Bool.rec (motive := fun _ => AL) ((j_522, a_523) :: (alDel two k t_0)) (alDel two k t_0) (Bool.rec (motive := fun _ => Bool) false (Nat.beq (catA a_523) (nat_lit 2)) (Nat.beq (Nat.succ j_522) k))) (alDel two k t_0) (Bool.rec (motive := fun _ => Bool) false (Nat.beq j_522 (Nat.succ k)) two)) (alDel two k t_0) (Nat.beq j_522 k))) h_0) = _
    try simp only [iAddQ_eq, iMulQ_eq, iNegQ_eq, lenQ_eq, nthQ_eq, setQ_eq, appQ_eq, mapQ_eq, allQ_eq, anyQ_eq, dropQ_eq, takeQ_eq, revQ_eq, getDQ_eq, optLQ_eq, brecC]
    all_goals
      cases h_0 with
      | mk y_524 y_525 =>
        try dsimp only [cond_false, cond_true]
        all_goals
          cases hq_2 : (Nat.beq y_524 k) with
          | false =>
            try dsimp only [cond_false, cond_true]
            all_goals
              cases hq_3 : ((bif two then (Nat.beq y_524 ((Nat.succ k))) else false)) with
              | false =>
                try dsimp only [cond_false, cond_true]
                all_goals
                  cases hq_4 : ((bif (Nat.beq ((Nat.succ y_524)) k) then (Nat.beq ((catA y_525)) 2) else false)) with
                  | false =>
                    try dsimp only [cond_false, cond_true]
                    all_goals rfl
                  | true =>
                    try dsimp only [cond_false, cond_true]
                    all_goals rfl
              | true =>
                try dsimp only [cond_false, cond_true]
                all_goals rfl
          | true =>
            try dsimp only [cond_false, cond_true]
            all_goals rfl
theorem lvGet_nil (j : Nat) : lvGet [] j = none := rfl
theorem lvGet_cons (p : Nat × Value) (lv : LV) (j : Nat) : lvGet (p :: lv) j = if p.1 = j then some p.2 else lvGet lv j := by
  unfold lvGet
  rw [List.find?_cons]
  by_cases h : p.1 = j
  · have : (p.1 == j) = true := by simpa using h
    rw [this, if_pos h]
    rfl
  · have : (p.1 == j) = false := by simpa using h
    rw [this, if_neg h]
theorem lvGet_filter {f : Nat × Value → Bool} {lv : LV} {j : Nat} {v : Value} (h : lvGet lv j = some v) (hf : f (j, v) = true) : lvGet (lv.filter f) j = some v := by
  induction lv with
  | nil => cases h
  | cons p lv ih =>
    rw [lvGet_cons] at h
    by_cases hp : p.1 = j
    · rw [if_pos hp] at h
      cases h
      have e : p = (j, p.2) := by rw [← hp]
      rw [List.filter_cons, if_pos (by rw [e]; exact hf), lvGet_cons, if_pos hp]
    · rw [if_neg hp] at h
      rw [List.filter_cons]
      split
      · rw [lvGet_cons, if_neg hp]; exact ih h
      · exact ih h
theorem lvR_set1 {ρ : Nat → Int} {lv : LV} {al : AL} (h : lvR ρ lv al) {k : Nat} {v : Value} {a : AV} (hv : vrel ρ v a) : lvR ρ (lvSet1 lv k v) ((k, a) :: alDel false k al) := by
  have key : ∀ al : AL, lvR ρ lv al → ∀ q ∈ alDel false k al, ∃ w, lvGet (lvSet1 lv k v) q.1 = some w ∧ vrel ρ w q.2 := by
    intro al
    induction al with
    | nil => intro _ q hq; cases hq
    | cons p r ih =>
      obtain ⟨j, b⟩ := p
      intro hr
      have hr2 := ih (fun q hq => hr q (List.mem_cons_of_mem _ hq))
      intro q hq
      rw [alDel_def] at hq
      try dsimp only at hq
      cases h1 : Nat.beq j k with
      | true => rw [h1] at hq; exact hr2 q hq
      | false =>
        simp only [h1, cond_false] at hq
        cases h2 : (bif Nat.beq (Nat.succ j) k then Nat.beq (catA b) 2 else false) with
        | true => rw [h2] at hq; exact hr2 q hq
        | false =>
          rw [h2] at hq
          rcases List.mem_cons.mp hq with rfl | hq
          · obtain ⟨w, w1, w2⟩ := hr (j, b) List.mem_cons_self
            refine ⟨w, ?_, w2⟩
            try dsimp only at w1 w2 ⊢
            have hjk : ¬ j = k := fun q => by rw [q, Nat.beq_refl] at h1; cases h1
            unfold lvSet1
            rw [lvGet_cons, if_neg (fun q : k = j => hjk q.symm)]
            refine lvGet_filter w1 ?_
            have hc := catA_ok w2
            have h3 : (j == k) = false := by simpa using hjk
            simp only [h3, Bool.not_false, Bool.true_and]
            by_cases h4 : j + 1 = k
            · have h5 : Nat.beq (Nat.succ j) k = true := Nat.beq_eq.mpr h4
              rw [h5] at h2
              have h6 : ¬ catA b = 2 := fun q => by rw [q] at h2; cases h2
              rw [← hc] at h6
              have h7 : (w.category == 2) = false := by simpa using h6
              rw [h7, Bool.and_false]
              rfl
            · have h7 : (j + 1 == k) = false := by simpa using h4
              rw [h7]
              rfl
          · exact hr2 q hq
  intro q hq
  rcases List.mem_cons.mp hq with rfl | hq
  · refine ⟨v, ?_, hv⟩
    unfold lvSet1
    rw [lvGet_cons, if_pos rfl]
  · exact key al h q hq
theorem lvR_set2 {ρ : Nat → Int} {lv : LV} {al : AL} (h : lvR ρ lv al) {k : Nat} {v : Value} {a : AV} (hv : vrel ρ v a) : lvR ρ (lvSet2 lv k v) ((k, a) :: alDel true k al) := by
  have key : ∀ al : AL, lvR ρ lv al → ∀ q ∈ alDel true k al, ∃ w, lvGet (lvSet2 lv k v) q.1 = some w ∧ vrel ρ w q.2 := by
    intro al
    induction al with
    | nil => intro _ q hq; cases hq
    | cons p r ih =>
      obtain ⟨j, b⟩ := p
      intro hr
      have hr2 := ih (fun q hq => hr q (List.mem_cons_of_mem _ hq))
      intro q hq
      rw [alDel_def] at hq
      try dsimp only at hq
      cases h1 : Nat.beq j k with
      | true => rw [h1] at hq; exact hr2 q hq
      | false =>
        simp only [h1, cond_false, cond_true] at hq
        cases h1' : Nat.beq j (Nat.succ k) with
        | true => rw [h1'] at hq; exact hr2 q hq
        | false =>
          rw [h1'] at hq
          simp only [cond_false] at hq
          cases h2 : (bif Nat.beq (Nat.succ j) k then Nat.beq (catA b) 2 else false) with
          | true => rw [h2] at hq; exact hr2 q hq
          | false =>
            rw [h2] at hq
            rcases List.mem_cons.mp hq with rfl | hq
            · obtain ⟨w, w1, w2⟩ := hr (j, b) List.mem_cons_self
              refine ⟨w, ?_, w2⟩
              try dsimp only at w1 w2 ⊢
              have hjk : ¬ j = k := fun q => by rw [q, Nat.beq_refl] at h1; cases h1
              have hjk' : ¬ j = k + 1 := fun q => by rw [q] at h1'; simp at h1'
              unfold lvSet2
              rw [lvGet_cons, if_neg (fun q : k = j => hjk q.symm)]
              refine lvGet_filter w1 ?_
              have hc := catA_ok w2
              have h3 : (j == k) = false := by simpa using hjk
              have h3' : (j == k + 1) = false := by simpa using hjk'
              simp only [h3, h3', Bool.not_false, Bool.true_and]
              by_cases h4 : j + 1 = k
              · have h5 : Nat.beq (Nat.succ j) k = true := Nat.beq_eq.mpr h4
                rw [h5] at h2
                have h6 : ¬ catA b = 2 := fun q => by rw [q] at h2; cases h2
                rw [← hc] at h6
                have h7 : (w.category == 2) = false := by simpa using h6
                rw [h7, Bool.and_false]
                rfl
              · have h7 : (j + 1 == k) = false := by simpa using h4
                rw [h7]
                rfl
            · exact hr2 q hq
  intro q hq
  rcases List.mem_cons.mp hq with rfl | hq
  · refine ⟨v, ?_, hv⟩
    unfold lvSet2
    rw [lvGet_cons, if_pos rfl]
  · exact key al h q hq
noncomputable def lvOk (n : Nat) (lv : LV) : Prop := ∀ q ∈ lv, okV n q.2 = true
theorem lvOk_set1 {n : Nat} {lv : LV} (h : lvOk n lv) {k : Nat} {v : Value} (hv : okV n v = true) : lvOk n (lvSet1 lv k v) := fun q hq => (List.mem_cons.mp hq).elim (fun e => e ▸ hv) (fun hq => h q (List.mem_filter.mp hq).1)
theorem lvOk_set2 {n : Nat} {lv : LV} (h : lvOk n lv) {k : Nat} {v : Value} (hv : okV n v = true) : lvOk n (lvSet2 lv k v) := fun q hq => (List.mem_cons.mp hq).elim (fun e => e ▸ hv) (fun hq => h q (List.mem_filter.mp hq).1)
theorem okV_le {n m : Nat} (h : n ≤ m) {v : Value} (hv : okV n v = true) : okV m v = true := by
  cases v with
  | ref i =>
    simp only [okV, Bool.or_eq_true, decide_eq_true_eq, beq_iff_eq] at hv ⊢
    rcases hv with q | q
    · exact Or.inl (Nat.lt_of_lt_of_le q h)
    · exact Or.inr q
  | _ => rfl
theorem lvOk_le {n m : Nat} (hn : n ≤ m) {lv : LV} (h : lvOk n lv) : lvOk m lv := fun q hq => okV_le hn (h q hq)
