/-! ===== abstract cells, heaps, locals ===== -/
noncomputable def rel2 {α β : Type} (R : α → β → Prop) : List α → List β → Prop
  | [], [] => True
  | a :: l, b :: r => R a b ∧ rel2 R l r
  | [], _ :: _ => False
  | _ :: _, [] => False
section REL
variable {α β : Type} {R : α → β → Prop}
theorem rel2_nil {l : List α} (h : rel2 R l []) : l = [] := by cases l with
  | nil => rfl
  | cons a l => exact h.elim
theorem rel2_cons {l : List α} {b : β} {r : List β} (h : rel2 R l (b :: r)) : ∃ a l', l = a :: l' ∧ R a b ∧ rel2 R l' r := by cases l with
  | nil => exact h.elim
  | cons a l => exact ⟨a, l, rfl, h.1, h.2⟩
theorem rel2_len {l : List α} {r : List β} (h : rel2 R l r) : l.length = r.length := by
  induction r generalizing l with
  | nil => rw [rel2_nil h]; rfl
  | cons b r ih => obtain ⟨a, l', rfl, -, h2⟩ := rel2_cons h; simp [ih h2]
theorem rel2_get {l : List α} {r : List β} (h : rel2 R l r) {i : Nat} {b : β} (hb : r[i]? = some b) : ∃ a, l[i]? = some a ∧ R a b := by
  induction r generalizing l i with
  | nil => cases hb
  | cons c r ih =>
    obtain ⟨a, l', rfl, h1, h2⟩ := rel2_cons h
    cases i with
    | zero => cases hb; exact ⟨a, rfl, h1⟩
    | succ i => exact ih h2 hb
theorem rel2_get' {l : List α} {r : List β} (h : rel2 R l r) {i : Nat} {a : α} (ha : l[i]? = some a) : ∃ b, r[i]? = some b ∧ R a b := by
  induction r generalizing l i with
  | nil => rw [rel2_nil h] at ha; cases ha
  | cons c r ih =>
    obtain ⟨a', l', rfl, h1, h2⟩ := rel2_cons h
    cases i with
    | zero => cases ha; exact ⟨c, rfl, h1⟩
    | succ i => exact ih h2 ha
theorem rel2_set {l : List α} {r : List β} (h : rel2 R l r) {i : Nat} {a : α} {b : β} (hab : R a b) : rel2 R (l.set i a) (r.set i b) := by
  induction r generalizing l i with
  | nil => rw [rel2_nil h]; exact trivial
  | cons c r ih =>
    obtain ⟨a', l', rfl, h1, h2⟩ := rel2_cons h
    cases i with
    | zero => exact ⟨hab, h2⟩
    | succ i => exact ⟨h1, ih h2⟩
theorem rel2_app {l l2 : List α} {r r2 : List β} (h : rel2 R l r) (h2 : rel2 R l2 r2) : rel2 R (l ++ l2) (r ++ r2) := by
  induction r generalizing l with
  | nil => rw [rel2_nil h]; exact h2
  | cons c r ih => obtain ⟨a', l', rfl, h3, h4⟩ := rel2_cons h; exact ⟨h3, ih h4⟩
theorem rel2_imp {R' : α → β → Prop} (hi : ∀ a b, R a b → R' a b) {l : List α} {r : List β} (h : rel2 R l r) : rel2 R' l r := by
  induction r generalizing l with
  | nil => rw [rel2_nil h]; exact trivial
  | cons c r ih => obtain ⟨a', l', rfl, h3, h4⟩ := rel2_cons h; exact ⟨hi _ _ h3, ih h4⟩
theorem rel2_map {γ δ : Type} {R' : γ → δ → Prop} {f : α → γ} {g : β → δ} (hi : ∀ a b, R a b → R' (f a) (g b)) {l : List α} {r : List β} (h : rel2 R l r) : rel2 R' (l.map f) (r.map g) := by
  induction r generalizing l with
  | nil => rw [rel2_nil h]; exact trivial
  | cons c r ih => obtain ⟨a', l', rfl, h3, h4⟩ := rel2_cons h; exact ⟨hi _ _ h3, ih h4⟩
theorem rel2_drop {l : List α} {r : List β} (h : rel2 R l r) (n : Nat) : rel2 R (l.drop n) (r.drop n) := by
  induction r generalizing l n with
  | nil => rw [rel2_nil h]; simp [rel2]
  | cons c r ih =>
    obtain ⟨a', l', rfl, h3, h4⟩ := rel2_cons h
    cases n with
    | zero => exact ⟨h3, h4⟩
    | succ n => exact ih h4 n
theorem rel2_take {l : List α} {r : List β} (h : rel2 R l r) (n : Nat) : rel2 R (l.take n) (r.take n) := by
  induction r generalizing l n with
  | nil => rw [rel2_nil h]; simp [rel2]
  | cons c r ih =>
    obtain ⟨a', l', rfl, h3, h4⟩ := rel2_cons h
    cases n with
    | zero => exact trivial
    | succ n => exact ⟨h3, ih h4 n⟩
theorem rel2_rev {l : List α} {r : List β} (h : rel2 R l r) : rel2 R l.reverse r.reverse := by
  induction r generalizing l with
  | nil => rw [rel2_nil h]; exact trivial
  | cons c r ih =>
    obtain ⟨a', l', rfl, h3, h4⟩ := rel2_cons h
    rw [List.reverse_cons, List.reverse_cons]
    exact rel2_app (ih h4) ⟨h3, trivial⟩
end REL
-- int arrays in segments
abbrev Sg : Type := Ln ⊕ (Nat × Int × Int)
noncomputable def srel (ρ : Nat → Int) : List Sg → List Int32 → Prop
  | [], l => l = []
  | .inl e :: r, l => ∃ (x : Int32) (l' : List Int32), l = x :: l' ∧ x.toInt = ev ρ e ∧ srel ρ r l'
  | .inr (m, lo, hi) :: r, l => ∃ l1 l2 : List Int32, l = l1 ++ l2 ∧ l1.length = m ∧ (∀ x ∈ l1, lo ≤ x.toInt ∧ x.toInt ≤ hi) ∧ srel ρ r l2
noncomputable def sgLen  : List Sg → Nat :=
  fun e_0 => List.rec (motive := fun _ => Nat) (nat_lit 0) (fun h_0 t_0 ih => (Sum.rec (motive := fun _ => Nat) (fun x_281 => (Nat.succ (ih))) (fun x_282 => (Prod.rec (motive := fun _ => Nat) (fun m_283 x_284 => (Prod.rec (motive := fun _ => Nat) (fun x_285 x_286 => (Nat.add m_283 (ih))) x_284)) x_282)) h_0)) e_0 
theorem sgLen_def  (e_0 : List Sg) : sgLen  e_0 = (match e_0 with
  | [] => 0
  | .inl _ :: r => Nat.succ (sgLen r)
  | .inr (m, _, _) :: r => Nat.add m (sgLen r)) := by
  cases e_0 with
  | nil =>
    show (nat_lit 0) = _
    try simp only [iAddQ_eq, iMulQ_eq, iNegQ_eq, lenQ_eq, nthQ_eq, setQ_eq, appQ_eq, mapQ_eq, allQ_eq, anyQ_eq, dropQ_eq, takeQ_eq, revQ_eq, getDQ_eq, optLQ_eq, brecC]
    all_goals rfl
  | cons h_0 t_0 =>
    show (Sum.rec (motive := fun _ => Nat) (fun x_287 => (Nat.succ (sgLen t_0))) (fun x_288 => (Prod.rec (motive := fun _ => Nat) (fun m_289 x_290 => (Prod.rec (motive := fun _ => Nat) (fun x_291 x_292 => (Nat.add m_289 (sgLen t_0))) x_290)) x_288)) h_0) = _
    try simp only [iAddQ_eq, iMulQ_eq, iNegQ_eq, lenQ_eq, nthQ_eq, setQ_eq, appQ_eq, mapQ_eq, allQ_eq, anyQ_eq, dropQ_eq, takeQ_eq, revQ_eq, getDQ_eq, optLQ_eq, brecC]
    all_goals
      cases h_0 with
      | inl y_293 =>
        try dsimp only [cond_false, cond_true]
        all_goals rfl
      | inr y_294 =>
        try dsimp only [cond_false, cond_true]
        all_goals
          cases y_294 with
          | mk y_295 y_296 =>
            try dsimp only [cond_false, cond_true]
            all_goals
              cases y_296 with
              | mk y_297 y_298 =>
                try dsimp only [cond_false, cond_true]
                all_goals rfl
theorem srel_len {ρ : Nat → Int} {s : List Sg} {l : List Int32} (h : srel ρ s l) : l.length = sgLen s := by
  induction s generalizing l with
  | nil => rw [h]; rfl
  | cons q r ih =>
    match q, h with
    | .inl e, ⟨x, l', e1, _, h2⟩ =>
      subst e1
      rw [List.length_cons, ih h2]
      rfl
    | .inr (m, lo, hi), ⟨l1, l2, e1, h1, _, h2⟩ =>
      subst e1
      rw [List.length_append, h1, ih h2]
      rfl
noncomputable def sgAt  : List Sg → Nat → Option OR :=
  fun e_0 e_1 => List.rec (motive := fun _ => Nat → Option OR) (fun e_1 => none) (fun h_0 t_0 ih e_1 => (Sum.rec (motive := fun _ => Option OR) (fun e_299 => (Nat.rec (motive := fun _ => Option OR) (some (.inl e_299)) (fun k_301 _ => (ih k_301)) e_1)) (fun x_300 => (Prod.rec (motive := fun _ => Option OR) (fun m_302 x_303 => (Prod.rec (motive := fun _ => Option OR) (fun lo_304 hi_305 => (Bool.rec (motive := fun _ => Option OR) (ih (Nat.sub e_1 m_302)) (some (.inr (lo_304, hi_305, none))) (Nat.blt e_1 m_302))) x_303)) x_300)) h_0)) e_0 e_1
theorem sgAt_def  (e_0 : List Sg) (e_1 : Nat) : sgAt  e_0 e_1 = (match e_0, e_1 with
  | [], _ => none
  | .inl e :: r, k => match k with
    | 0 => some (.inl e)
    | k + 1 => sgAt r k
  | .inr (m, lo, hi) :: r, k => bif Nat.blt k m then some (.inr (lo, hi, none)) else sgAt r (Nat.sub k m)) := by
  cases e_0 with
  | nil =>
    show none = _
    try simp only [iAddQ_eq, iMulQ_eq, iNegQ_eq, lenQ_eq, nthQ_eq, setQ_eq, appQ_eq, mapQ_eq, allQ_eq, anyQ_eq, dropQ_eq, takeQ_eq, revQ_eq, getDQ_eq, optLQ_eq, brecC]
    all_goals rfl
  | cons h_0 t_0 =>
    show (Sum.rec (motive := fun _ => Option OR) (fun e_306 => (Nat.rec (motive := fun _ => Option OR) (some (.inl e_306)) (fun k_308 _ => (sgAt t_0 k_308)) e_1)) (fun x_307 => (Prod.rec (motive := fun _ => Option OR) (fun m_309 x_310 => (Prod.rec (motive := fun _ => Option OR) (fun lo_311 hi_312 => (Bool.rec (motive := fun _ => Option OR) (sgAt t_0 (Nat.sub e_1 m_309)) (some (.inr (lo_311, hi_312, none))) (Nat.blt e_1 m_309))) x_310)) x_307)) h_0) = _
    try simp only [iAddQ_eq, iMulQ_eq, iNegQ_eq, lenQ_eq, nthQ_eq, setQ_eq, appQ_eq, mapQ_eq, allQ_eq, anyQ_eq, dropQ_eq, takeQ_eq, revQ_eq, getDQ_eq, optLQ_eq, brecC]
    all_goals
      cases h_0 with
      | inl y_313 =>
        try dsimp only [cond_false, cond_true]
        all_goals
          cases e_1 with
          | zero =>
            try dsimp only [cond_false, cond_true]
            all_goals rfl
          | succ y_314 =>
            try dsimp only [cond_false, cond_true]
            all_goals rfl
      | inr y_315 =>
        try dsimp only [cond_false, cond_true]
        all_goals
          cases y_315 with
          | mk y_316 y_317 =>
            try dsimp only [cond_false, cond_true]
            all_goals
              cases y_317 with
              | mk y_318 y_319 =>
                try dsimp only [cond_false, cond_true]
                all_goals
                  cases hq_5 : (Nat.blt e_1 y_316) with
                  | false =>
                    try dsimp only [cond_false, cond_true]
                    all_goals rfl
                  | true =>
                    try dsimp only [cond_false, cond_true]
                    all_goals rfl
theorem blt_iff {a b : Nat} : Nat.blt a b = true ↔ a < b := by
  show Nat.ble (a + 1) b = true ↔ _
  rw [Nat.ble_eq]
  exact Iff.rfl
theorem blt_f {a b : Nat} (h : Nat.blt a b = false) : b ≤ a := by
  cases Nat.lt_or_ge a b with
  | inl q => rw [blt_iff.mpr q] at h; cases h
  | inr q => exact q
theorem sgAt_ok {ρ : Nat → Int} {s : List Sg} {l : List Int32} (h : srel ρ s l) {k : Nat} {o : OR} (ho : sgAt s k = some o) : ∃ x, l[k]? = some x ∧ orOk ρ x.toInt o := by
  induction s generalizing l k with
  | nil => cases ho
  | cons q r ih =>
    match q, h with
    | .inl e, ⟨x, l', e1, e2, h2⟩ =>
      subst e1
      cases k with
      | zero => cases ho; exact ⟨x, rfl, e2⟩
      | succ k => exact ih h2 ho
    | .inr (m, lo, hi), ⟨l1, l2, e1, e2, e3, h2⟩ =>
      subst e1
      rw [sgAt_def] at ho
      try dsimp only at ho
      cases h3 : Nat.blt k m with
      | true =>
        rw [h3] at ho
        cases ho
        have h4 := blt_iff.mp h3
        refine ⟨l1[k]'(by omega), ?_, e3 _ (List.getElem_mem _), fun _ h => by cases h⟩
        rw [List.getElem?_append_left (by omega), List.getElem?_eq_getElem]
      | false =>
        rw [h3] at ho
        have h4 := blt_f h3
        obtain ⟨x, h5, h6⟩ := ih h2 ho
        refine ⟨x, ?_, h6⟩
        rw [List.getElem?_append_right (by omega), e2]
        exact h5
noncomputable def joinB (a b : Option (Int × Int)) : Option (Int × Int) :=
  (Option.rec (motive := fun _ => Option (Int × Int)) none (fun x_320 => (Prod.rec (motive := fun _ => Option (Int × Int)) (fun l1_321 h1_322 => (Option.rec (motive := fun _ => Option (Int × Int)) none (fun x_323 => (Prod.rec (motive := fun _ => Option (Int × Int)) (fun l2_324 h2_325 => (some ((Bool.rec (motive := fun _ => _) l2_324 l1_321 (leI l1_321 l2_324)), (Bool.rec (motive := fun _ => _) h1_322 h2_325 (leI h1_322 h2_325))))) x_323)) b)) x_320)) a)
theorem joinB_def (a b : Option (Int × Int)) : joinB a b = (match a, b with
  | some (l1, h1), some (l2, h2) => some (bif leI l1 l2 then l1 else l2, bif leI h1 h2 then h2 else h1)
  | _, _ => none) := by
  show (Option.rec (motive := fun _ => Option (Int × Int)) none (fun x_320 => (Prod.rec (motive := fun _ => Option (Int × Int)) (fun l1_321 h1_322 => (Option.rec (motive := fun _ => Option (Int × Int)) none (fun x_323 => (Prod.rec (motive := fun _ => Option (Int × Int)) (fun l2_324 h2_325 => (some ((Bool.rec (motive := fun _ => _) l2_324 l1_321 (leI l1_321 l2_324)), (Bool.rec (motive := fun _ => _) h1_322 h2_325 (leI h1_322 h2_325))))) x_323)) b)) x_320)) a) = _
  try simp only [iAddQ_eq, iMulQ_eq, iNegQ_eq, lenQ_eq, nthQ_eq, setQ_eq, appQ_eq, mapQ_eq, allQ_eq, anyQ_eq, dropQ_eq, takeQ_eq, revQ_eq, getDQ_eq, optLQ_eq, brecC]
  all_goals
    cases a with
    | none =>
      try dsimp only [cond_false, cond_true]
      all_goals rfl
    | some y_326 =>
      try dsimp only [cond_false, cond_true]
      all_goals
        cases y_326 with
        | mk y_327 y_328 =>
          try dsimp only [cond_false, cond_true]
          all_goals
            cases b with
            | none =>
              try dsimp only [cond_false, cond_true]
              all_goals rfl
            | some y_329 =>
              try dsimp only [cond_false, cond_true]
              all_goals
                cases y_329 with
                | mk y_330 y_331 =>
                  try dsimp only [cond_false, cond_true]
                  all_goals rfl
theorem joinB_ok {a b : Option (Int × Int)} {lo hi : Int} (h : joinB a b = some (lo, hi)) : (∃ l1 h1, a = some (l1, h1) ∧ lo ≤ l1 ∧ h1 ≤ hi) ∧ ∃ l2 h2, b = some (l2, h2) ∧ lo ≤ l2 ∧ h2 ≤ hi := by
  rw [joinB_def] at h
  split at h
  · rename_i l1 h1 l2 h2
    cases h
    refine ⟨⟨_, _, rfl, ?_, ?_⟩, ⟨_, _, rfl, ?_, ?_⟩⟩
    · cases h3 : leI l1 l2 with
      | true => exact Int.le_refl _
      | false => have : ¬ l1 ≤ l2 := fun q => by rw [leI_iff.mpr q] at h3; cases h3
                 show l2 ≤ l1; omega
    · cases h3 : leI h1 h2 with
      | true => exact leI_le h3
      | false => exact Int.le_refl _
    · cases h3 : leI l1 l2 with
      | true => exact leI_le h3
      | false => exact Int.le_refl _
    · cases h3 : leI h1 h2 with
      | true => exact Int.le_refl _
      | false => have : ¬ h1 ≤ h2 := fun q => by rw [leI_iff.mpr q] at h3; cases h3
                 show h2 ≤ h1; omega
  · cases h
noncomputable def bndL (tab : Tb) (e : Ln) : Option (Int × Int) :=
  (Option.rec (motive := fun _ => Option (Int × Int)) none (fun a_332 => (Option.rec (motive := fun _ => Option (Int × Int)) none (fun b_333 => (some (a_332, b_333))) (ub tab e))) (lb tab e))
theorem bndL_def (tab : Tb) (e : Ln) : bndL tab e = (match lb tab e, ub tab e with
  | some a, some b => some (a, b)
  | _, _ => none) := by
  show (Option.rec (motive := fun _ => Option (Int × Int)) none (fun a_332 => (Option.rec (motive := fun _ => Option (Int × Int)) none (fun b_333 => (some (a_332, b_333))) (ub tab e))) (lb tab e)) = _
  all_goals
    cases hq_1 : (lb tab e) with
    | none =>
      try dsimp only [cond_false, cond_true]
      all_goals rfl
    | some y_334 =>
      try dsimp only [cond_false, cond_true]
      all_goals
        cases hq_2 : (ub tab e) with
        | none =>
          try dsimp only [cond_false, cond_true]
          all_goals rfl
        | some y_335 =>
          try dsimp only [cond_false, cond_true]
          all_goals rfl
theorem bndL_ok {ρ : Nat → Int} {tab : Tb} (h : tOk ρ tab) {e : Ln} {lo hi : Int} (hb : bndL tab e = some (lo, hi)) : lo ≤ ev ρ e ∧ ev ρ e ≤ hi := by
  rw [bndL_def] at hb
  split at hb
  · rename_i a b h1 h2
    cases hb
    exact ⟨lb_ok h h1, ub_ok h h2⟩
  · cases hb
/-- bounds of all elements a .. b, all of which are there -/
noncomputable def sgHull (tab : Tb) : List Sg → Nat → Nat → Option (Int × Int) :=
  fun e_0 e_1 e_2 => List.rec (motive := fun _ => Nat → Nat → Option (Int × Int)) (fun e_1 e_2 => none) (fun h_0 t_0 ih e_1 e_2 => (Sum.rec (motive := fun _ => Option (Int × Int)) (fun e_336 => (Nat.rec (motive := fun _ => Option (Int × Int)) (Nat.rec (motive := fun _ => Option (Int × Int)) (bndL tab e_336) (fun b_339 _ => (joinB (bndL tab e_336) (ih (nat_lit 0) b_339))) e_2) (fun a_338 _ => (Nat.rec (motive := fun _ => Option (Int × Int)) none (fun b_340 _ => (ih a_338 b_340)) e_2)) e_1)) (fun x_337 => (Prod.rec (motive := fun _ => Option (Int × Int)) (fun m_341 x_342 => (Prod.rec (motive := fun _ => Option (Int × Int)) (fun lo_343 hi_344 => (Bool.rec (motive := fun _ => Option (Int × Int)) (ih (Nat.sub e_1 m_341) (Nat.sub e_2 m_341)) (Bool.rec (motive := fun _ => Option (Int × Int)) (joinB (some (lo_343, hi_344)) (ih (nat_lit 0) (Nat.sub e_2 m_341))) (some (lo_343, hi_344)) (Nat.blt e_2 m_341)) (Nat.blt e_1 m_341))) x_342)) x_337)) h_0)) e_0 e_1 e_2
theorem sgHull_def (tab : Tb) (e_0 : List Sg) (e_1 : Nat) (e_2 : Nat) : sgHull tab e_0 e_1 e_2 = (match e_0, e_1, e_2 with
  | [], _, _ => none
  | .inl e :: r, a, b => match a, b with
    | 0, 0 => bndL tab e
    | 0, b + 1 => joinB (bndL tab e) (sgHull tab r 0 b)
    | a + 1, b + 1 => sgHull tab r a b
    | _ + 1, 0 => none
  | .inr (m, lo, hi) :: r, a, b => bif Nat.blt a m then (bif Nat.blt b m then some (lo, hi) else joinB (some (lo, hi)) (sgHull tab r 0 (Nat.sub b m))) else sgHull tab r (Nat.sub a m) (Nat.sub b m)) := by
  cases e_0 with
  | nil =>
    show none = _
    try simp only [iAddQ_eq, iMulQ_eq, iNegQ_eq, lenQ_eq, nthQ_eq, setQ_eq, appQ_eq, mapQ_eq, allQ_eq, anyQ_eq, dropQ_eq, takeQ_eq, revQ_eq, getDQ_eq, optLQ_eq, brecC]
    all_goals rfl
  | cons h_0 t_0 =>
    show (Sum.rec (motive := fun _ => Option (Int × Int)) (fun e_345 => (Nat.rec (motive := fun _ => Option (Int × Int)) (Nat.rec (motive := fun _ => Option (Int × Int)) (bndL tab e_345) (fun b_348 _ => (joinB (bndL tab e_345) (sgHull tab t_0 (nat_lit 0) b_348))) e_2) (fun a_347 _ => (Nat.rec (motive := fun _ => Option (Int × Int)) none (fun b_349 _ => (sgHull tab t_0 a_347 b_349)) e_2)) e_1)) (fun x_346 => (Prod.rec (motive := fun _ => Option (Int × Int)) (fun m_350 x_351 => (Prod.rec (motive := fun _ => Option (Int × Int)) (fun lo_352 hi_353 => (Bool.rec (motive := fun _ => Option (Int × Int)) (sgHull tab t_0 (Nat.sub e_1 m_350) (Nat.sub e_2 m_350)) (Bool.rec (motive := fun _ => Option (Int × Int)) (joinB (some (lo_352, hi_353)) (sgHull tab t_0 (nat_lit 0) (Nat.sub e_2 m_350))) (some (lo_352, hi_353)) (Nat.blt e_2 m_350)) (Nat.blt e_1 m_350))) x_351)) x_346)) h_0) = _
    try simp only [iAddQ_eq, iMulQ_eq, iNegQ_eq, lenQ_eq, nthQ_eq, setQ_eq, appQ_eq, mapQ_eq, allQ_eq, anyQ_eq, dropQ_eq, takeQ_eq, revQ_eq, getDQ_eq, optLQ_eq, brecC]
    all_goals
      cases h_0 with
      | inl y_354 =>
        try dsimp only [cond_false, cond_true]
        all_goals
          cases e_1 with
          | zero =>
            try dsimp only [cond_false, cond_true]
            all_goals
              cases e_2 with
              | zero =>
                try dsimp only [cond_false, cond_true]
                all_goals rfl
              | succ y_355 =>
                try dsimp only [cond_false, cond_true]
                all_goals rfl
          | succ y_356 =>
            try dsimp only [cond_false, cond_true]
            all_goals
              cases e_2 with
              | zero =>
                try dsimp only [cond_false, cond_true]
                all_goals rfl
              | succ y_357 =>
                try dsimp only [cond_false, cond_true]
                all_goals rfl
      | inr y_358 =>
        try dsimp only [cond_false, cond_true]
        all_goals
          cases y_358 with
          | mk y_359 y_360 =>
            try dsimp only [cond_false, cond_true]
            all_goals
              cases y_360 with
              | mk y_361 y_362 =>
                try dsimp only [cond_false, cond_true]
                all_goals
                  cases hq_7 : (Nat.blt e_1 y_359) with
                  | false =>
                    try dsimp only [cond_false, cond_true]
                    all_goals rfl
                  | true =>
                    try dsimp only [cond_false, cond_true]
                    all_goals
                      cases hq_8 : (Nat.blt e_2 y_359) with
                      | false =>
                        try dsimp only [cond_false, cond_true]
                        all_goals rfl
                      | true =>
                        try dsimp only [cond_false, cond_true]
                        all_goals rfl
theorem sgHull_ok {ρ : Nat → Int} {tab : Tb} (ht : tOk ρ tab) {s : List Sg} {l : List Int32} (h : srel ρ s l) {a b : Nat} {lo hi : Int} (ho : sgHull tab s a b = some (lo, hi)) (j : Nat) (h1 : a ≤ j) (h2 : j ≤ b) : ∃ x, l[j]? = some x ∧ lo ≤ x.toInt ∧ x.toInt ≤ hi := by
  induction s generalizing l a b lo hi j with
  | nil => cases ho
  | cons q r ih =>
    match q, h with
    | .inl e, ⟨x, l', e1, e2, h3⟩ =>
      subst e1
      rw [sgHull_def] at ho
      try dsimp only at ho
      split at ho
      · have : j = 0 := by omega
        subst this
        exact ⟨x, rfl, by rw [e2]; exact bndL_ok ht ho⟩
      · rename_i b
        obtain ⟨⟨l1, h1', q1, q2, q3⟩, ⟨l2, h2', q4, q5, q6⟩⟩ := joinB_ok ho
        cases j with
        | zero => have := bndL_ok ht q1; exact ⟨x, rfl, by omega⟩
        | succ j =>
          obtain ⟨y, y1, y2⟩ := ih h3 q4 j (by omega) (by omega)
          exact ⟨y, y1, by omega⟩
      · rename_i a b
        cases j with
        | zero => omega
        | succ j => exact ih h3 ho j (by omega) (by omega)
      · cases ho
    | .inr (m, lo', hi'), ⟨l1, l2, e1, e2, e3, h3⟩ =>
      subst e1
      rw [sgHull_def] at ho
      try dsimp only at ho
      have inl : j < m → ∃ x, (l1 ++ l2)[j]? = some x ∧ lo' ≤ x.toInt ∧ x.toInt ≤ hi' := fun hj => by
        refine ⟨l1[j]'(by omega), ?_, e3 _ (List.getElem_mem _)⟩
        rw [List.getElem?_append_left (by omega), List.getElem?_eq_getElem]
      have inr : ∀ {lo hi : Int}, m ≤ j → (∃ x, l2[j - m]? = some x ∧ lo ≤ x.toInt ∧ x.toInt ≤ hi) → ∃ x, (l1 ++ l2)[j]? = some x ∧ lo ≤ x.toInt ∧ x.toInt ≤ hi := fun hj hx => by
        obtain ⟨x, x1, x2⟩ := hx
        refine ⟨x, ?_, x2⟩
        rw [List.getElem?_append_right (by omega), e2]
        exact x1
      cases h4 : Nat.blt a m with
      | true =>
        rw [h4] at ho
        have h5 := blt_iff.mp h4
        cases h6 : Nat.blt b m with
        | true =>
          rw [h6] at ho
          have h7 := blt_iff.mp h6
          cases ho
          exact inl (by omega)
        | false =>
          rw [h6] at ho
          have h7 := blt_f h6
          simp only [cond_true, cond_false] at ho
          obtain ⟨⟨p1, p2, q1, q2, q3⟩, ⟨p3, p4, q4, q5, q6⟩⟩ := joinB_ok ho
          cases q1
          by_cases hj : j < m
          · obtain ⟨x, x1, x2⟩ := inl hj
            exact ⟨x, x1, by omega⟩
          · obtain ⟨x, x1, x2⟩ := inr (by omega) (ih h3 q4 (j - m) (by omega) (by show j - m ≤ b - m; omega))
            exact ⟨x, x1, by omega⟩
      | false =>
        rw [h4] at ho
        have h5 := blt_f h4
        exact inr (by omega) (ih h3 ho (j - m) (by show a - m ≤ j - m; omega) (by show j - m ≤ b - m; omega))
/-- element k is v from now on -/
noncomputable def sgSet (tab : Tb) (fs : List Ln) (v : Ln) : List Sg → Nat → Option (List Sg) :=
  fun e_0 e_1 => List.rec (motive := fun _ => Nat → Option (List Sg)) (fun e_1 => none) (fun h_0 t_0 ih e_1 => (Sum.rec (motive := fun _ => Option (List Sg)) (fun e_363 => (Nat.rec (motive := fun _ => Option (List Sg)) (some ((.inl v) :: t_0)) (fun k_365 _ => (Option.rec (motive := fun _ => Option (List Sg)) none (fun q_366 => (some ((.inl e_363) :: q_366))) (ih k_365))) e_1)) (fun x_364 => (Prod.rec (motive := fun _ => Option (List Sg)) (fun m_367 x_368 => (Prod.rec (motive := fun _ => Option (List Sg)) (fun lo_369 hi_370 => (Bool.rec (motive := fun _ => Option (List Sg)) (Option.rec (motive := fun _ => Option (List Sg)) none (fun q_371 => (some ((.inr (m_367, lo_369, hi_370)) :: q_371))) (ih (Nat.sub e_1 m_367))) (Bool.rec (motive := fun _ => Option (List Sg)) (some ((.inr (e_1, lo_369, hi_370)) :: ((.inl v) :: ((.inr ((Nat.sub m_367 (Nat.succ e_1)), lo_369, hi_370)) :: t_0)))) (some ((.inr (m_367, lo_369, hi_370)) :: t_0)) (inF tab fs lo_369 hi_370 v)) (Nat.blt e_1 m_367))) x_368)) x_364)) h_0)) e_0 e_1
theorem sgSet_def (tab : Tb) (fs : List Ln) (v : Ln) (e_0 : List Sg) (e_1 : Nat) : sgSet tab fs v e_0 e_1 = (match e_0, e_1 with
  | [], _ => none
  | .inl e :: r, k => match k with
    | 0 => some (.inl v :: r)
    | k + 1 => (match sgSet tab fs v r k with
      | some q => some (.inl e :: q)
      | none => none)
  | .inr (m, lo, hi) :: r, k => bif Nat.blt k m then (bif inF tab fs lo hi v then some (.inr (m, lo, hi) :: r) else some (.inr (k, lo, hi) :: .inl v :: .inr (Nat.sub m (Nat.succ k), lo, hi) :: r)) else (match sgSet tab fs v r (Nat.sub k m) with
    | some q => some (.inr (m, lo, hi) :: q)
    | none => none)) := by
  cases e_0 with
  | nil =>
    show none = _
    try simp only [iAddQ_eq, iMulQ_eq, iNegQ_eq, lenQ_eq, nthQ_eq, setQ_eq, appQ_eq, mapQ_eq, allQ_eq, anyQ_eq, dropQ_eq, takeQ_eq, revQ_eq, getDQ_eq, optLQ_eq, brecC]
    all_goals rfl
  | cons h_0 t_0 =>
    show (Sum.rec (motive := fun _ => Option (List Sg)) (fun e_372 => (Nat.rec (motive := fun _ => Option (List Sg)) (some ((.inl v) :: t_0)) (fun k_374 _ => (Option.rec (motive := fun _ => Option (List Sg)) none (fun q_375 => (some ((.inl e_372) :: q_375))) (sgSet tab fs v t_0 k_374))) e_1)) (fun x_373 => (Prod.rec (motive := fun _ => Option (List Sg)) (fun m_376 x_377 => (Prod.rec (motive := fun _ => Option (List Sg)) (fun lo_378 hi_379 => (Bool.rec (motive := fun _ => Option (List Sg)) (Option.rec (motive := fun _ => Option (List Sg)) none (fun q_380 => (some ((.inr (m_376, lo_378, hi_379)) :: q_380))) (sgSet tab fs v t_0 (Nat.sub e_1 m_376))) (Bool.rec (motive := fun _ => Option (List Sg)) (some ((.inr (e_1, lo_378, hi_379)) :: ((.inl v) :: ((.inr ((Nat.sub m_376 (Nat.succ e_1)), lo_378, hi_379)) :: t_0)))) (some ((.inr (m_376, lo_378, hi_379)) :: t_0)) (inF tab fs lo_378 hi_379 v)) (Nat.blt e_1 m_376))) x_377)) x_373)) h_0) = _
    try simp only [iAddQ_eq, iMulQ_eq, iNegQ_eq, lenQ_eq, nthQ_eq, setQ_eq, appQ_eq, mapQ_eq, allQ_eq, anyQ_eq, dropQ_eq, takeQ_eq, revQ_eq, getDQ_eq, optLQ_eq, brecC]
    all_goals
      cases h_0 with
      | inl y_381 =>
        try dsimp only [cond_false, cond_true]
        all_goals
          cases e_1 with
          | zero =>
            try dsimp only [cond_false, cond_true]
            all_goals rfl
          | succ y_382 =>
            try dsimp only [cond_false, cond_true]
            all_goals
              cases hq_3 : (sgSet tab fs v t_0 y_382) with
              | none =>
                try dsimp only [cond_false, cond_true]
                all_goals rfl
              | some y_383 =>
                try dsimp only [cond_false, cond_true]
                all_goals rfl
      | inr y_384 =>
        try dsimp only [cond_false, cond_true]
        all_goals
          cases y_384 with
          | mk y_385 y_386 =>
            try dsimp only [cond_false, cond_true]
            all_goals
              cases y_386 with
              | mk y_387 y_388 =>
                try dsimp only [cond_false, cond_true]
                all_goals
                  cases hq_6 : (Nat.blt e_1 y_385) with
                  | false =>
                    try dsimp only [cond_false, cond_true]
                    all_goals
                      cases hq_7 : (sgSet tab fs v t_0 ((Nat.sub e_1 y_385))) with
                      | none =>
                        try dsimp only [cond_false, cond_true]
                        all_goals rfl
                      | some y_389 =>
                        try dsimp only [cond_false, cond_true]
                        all_goals rfl
                  | true =>
                    try dsimp only [cond_false, cond_true]
                    all_goals
                      cases hq_8 : (inF tab fs y_387 y_388 v) with
                      | false =>
                        try dsimp only [cond_false, cond_true]
                        all_goals rfl
                      | true =>
                        try dsimp only [cond_false, cond_true]
                        all_goals rfl
theorem set_app_l {l1 l2 : List Int32} {k : Nat} {x : Int32} (h : k < l1.length) : (l1 ++ l2).set k x = l1.set k x ++ l2 := List.set_append_left _ _ h
theorem set_app_r {l1 l2 : List Int32} {k : Nat} {x : Int32} (h : l1.length ≤ k) : (l1 ++ l2).set k x = l1 ++ l2.set (k - l1.length) x := List.set_append_right _ _ h
theorem sgSet_ok {ρ : Nat → Int} {tab : Tb} {fs : List Ln} (ht : tOk ρ tab) (hf : fOk ρ fs) {v : Ln} {x : Int32} (hx : x.toInt = ev ρ v) {s s' : List Sg} {l : List Int32} (h : srel ρ s l) {k : Nat} (ho : sgSet tab fs v s k = some s') : k < l.length ∧ srel ρ s' (l.set k x) := by
  induction s generalizing l k s' with
  | nil => cases ho
  | cons q r ih =>
    match q, h with
    | .inl e, ⟨y, l', e1, e2, h3⟩ =>
      subst e1
      cases k with
      | zero => cases ho; exact ⟨Nat.zero_lt_succ _, x, l', rfl, hx, h3⟩
      | succ k =>
        rw [sgSet_def] at ho
        try dsimp only at ho
        try dsimp only at ho
        cases h4 : sgSet tab fs v r k with
        | none => rw [h4] at ho; cases ho
        | some s2 =>
          rw [h4] at ho
          cases ho
          have h5 := ih h3 h4
          exact ⟨Nat.succ_lt_succ h5.1, y, l'.set k x, rfl, e2, h5.2⟩
    | .inr (m, lo, hi), ⟨l1, l2, e1, e2, e3, h3⟩ =>
      subst e1
      rw [sgSet_def] at ho
      try dsimp only at ho
      cases h4 : Nat.blt k m with
      | true =>
        rw [h4] at ho
        have h5 := blt_iff.mp h4
        refine ⟨by rw [List.length_append]; omega, ?_⟩
        rw [set_app_l (by omega)]
        cases h6 : inF tab fs lo hi v with
        | true =>
          rw [h6] at ho
          cases ho
          have h7 := inF_ok ht hf h6
          refine ⟨l1.set k x, l2, rfl, by rw [List.length_set, e2], fun y hy => ?_, h3⟩
          rcases List.mem_or_eq_of_mem_set hy with q | q
          · exact e3 y q
          · subst q; rw [hx]; exact h7
        | false =>
          rw [h6] at ho
          cases ho
          refine ⟨l1.take k, x :: (l1.drop (k + 1) ++ l2), ?_, by rw [List.length_take]; omega, fun y hy => e3 y (List.mem_of_mem_take hy), x, l1.drop (k + 1) ++ l2, rfl, hx, l1.drop (k + 1), l2, rfl, by rw [List.length_drop, e2]; rfl, fun y hy => e3 y (List.mem_of_mem_drop hy), h3⟩
          rw [List.set_eq_take_append_cons_drop, if_pos (by omega)]
          simp
      | false =>
        rw [h4] at ho
        have h5 := blt_f h4
        cases h6 : sgSet tab fs v r (Nat.sub k m) with
        | none => rw [h6] at ho; cases ho
        | some s2 =>
          rw [h6] at ho
          cases ho
          have h7 := ih h3 h6
          have e4 : Nat.sub k m = k - l1.length := by rw [e2]; rfl
          rw [e4] at h7
          refine ⟨by rw [List.length_append]; omega, ?_⟩
          rw [set_app_r (by omega)]
          exact ⟨l1, _, rfl, e2, e3, h7.2⟩
/-- v may be put at any place a .. b -/
noncomputable def sgFit (tab : Tb) (fs : List Ln) (v : Ln) : List Sg → Nat → Nat → Bool :=
  fun e_0 e_1 e_2 => List.rec (motive := fun _ => Nat → Nat → Bool) (fun e_1 e_2 => false) (fun h_0 t_0 ih e_1 e_2 => (Sum.rec (motive := fun _ => Bool) (fun x_390 => (Nat.rec (motive := fun _ => Bool) false (fun a_392 _ => (Nat.rec (motive := fun _ => Bool) false (fun b_393 _ => (ih a_392 b_393)) e_2)) e_1)) (fun x_391 => (Prod.rec (motive := fun _ => Bool) (fun m_394 x_395 => (Prod.rec (motive := fun _ => Bool) (fun lo_396 hi_397 => (Bool.rec (motive := fun _ => Bool) (ih (Nat.sub e_1 m_394) (Nat.sub e_2 m_394)) (Bool.rec (motive := fun _ => Bool) false (Bool.rec (motive := fun _ => Bool) (ih (nat_lit 0) (Nat.sub e_2 m_394)) true (Nat.blt e_2 m_394)) (inF tab fs lo_396 hi_397 v)) (Nat.blt e_1 m_394))) x_395)) x_391)) h_0)) e_0 e_1 e_2
theorem sgFit_def (tab : Tb) (fs : List Ln) (v : Ln) (e_0 : List Sg) (e_1 : Nat) (e_2 : Nat) : sgFit tab fs v e_0 e_1 e_2 = (match e_0, e_1, e_2 with
  | [], _, _ => false
  | .inl _ :: r, a, b => match a, b with
    | a + 1, b + 1 => sgFit tab fs v r a b
    | _, _ => false
  | .inr (m, lo, hi) :: r, a, b => bif Nat.blt a m then (bif inF tab fs lo hi v then (bif Nat.blt b m then true else sgFit tab fs v r 0 (Nat.sub b m)) else false) else sgFit tab fs v r (Nat.sub a m) (Nat.sub b m)) := by
  cases e_0 with
  | nil =>
    show false = _
    try simp only [iAddQ_eq, iMulQ_eq, iNegQ_eq, lenQ_eq, nthQ_eq, setQ_eq, appQ_eq, mapQ_eq, allQ_eq, anyQ_eq, dropQ_eq, takeQ_eq, revQ_eq, getDQ_eq, optLQ_eq, brecC]
    all_goals rfl
  | cons h_0 t_0 =>
    show (Sum.rec (motive := fun _ => Bool) (fun x_398 => (Nat.rec (motive := fun _ => Bool) false (fun a_400 _ => (Nat.rec (motive := fun _ => Bool) false (fun b_401 _ => (sgFit tab fs v t_0 a_400 b_401)) e_2)) e_1)) (fun x_399 => (Prod.rec (motive := fun _ => Bool) (fun m_402 x_403 => (Prod.rec (motive := fun _ => Bool) (fun lo_404 hi_405 => (Bool.rec (motive := fun _ => Bool) (sgFit tab fs v t_0 (Nat.sub e_1 m_402) (Nat.sub e_2 m_402)) (Bool.rec (motive := fun _ => Bool) false (Bool.rec (motive := fun _ => Bool) (sgFit tab fs v t_0 (nat_lit 0) (Nat.sub e_2 m_402)) true (Nat.blt e_2 m_402)) (inF tab fs lo_404 hi_405 v)) (Nat.blt e_1 m_402))) x_403)) x_399)) h_0) = _
    try simp only [iAddQ_eq, iMulQ_eq, iNegQ_eq, lenQ_eq, nthQ_eq, setQ_eq, appQ_eq, mapQ_eq, allQ_eq, anyQ_eq, dropQ_eq, takeQ_eq, revQ_eq, getDQ_eq, optLQ_eq, brecC]
    all_goals
      cases h_0 with
      | inl y_406 =>
        try dsimp only [cond_false, cond_true]
        all_goals
          cases e_1 with
          | zero =>
            try dsimp only [cond_false, cond_true]
            all_goals rfl
          | succ y_407 =>
            try dsimp only [cond_false, cond_true]
            all_goals
              cases e_2 with
              | zero =>
                try dsimp only [cond_false, cond_true]
                all_goals rfl
              | succ y_408 =>
                try dsimp only [cond_false, cond_true]
                all_goals rfl
      | inr y_409 =>
        try dsimp only [cond_false, cond_true]
        all_goals
          cases y_409 with
          | mk y_410 y_411 =>
            try dsimp only [cond_false, cond_true]
            all_goals
              cases y_411 with
              | mk y_412 y_413 =>
                try dsimp only [cond_false, cond_true]
                all_goals
                  cases hq_6 : (Nat.blt e_1 y_410) with
                  | false =>
                    try dsimp only [cond_false, cond_true]
                    all_goals rfl
                  | true =>
                    try dsimp only [cond_false, cond_true]
                    all_goals
                      cases hq_7 : (inF tab fs y_412 y_413 v) with
                      | false =>
                        try dsimp only [cond_false, cond_true]
                        all_goals rfl
                      | true =>
                        try dsimp only [cond_false, cond_true]
                        all_goals
                          cases hq_8 : (Nat.blt e_2 y_410) with
                          | false =>
                            try dsimp only [cond_false, cond_true]
                            all_goals rfl
                          | true =>
                            try dsimp only [cond_false, cond_true]
                            all_goals rfl
theorem sgFit_ok {ρ : Nat → Int} {tab : Tb} {fs : List Ln} (ht : tOk ρ tab) (hf : fOk ρ fs) {v : Ln} {x : Int32} (hx : x.toInt = ev ρ v) {s : List Sg} {l : List Int32} (h : srel ρ s l) {a b : Nat} (ho : sgFit tab fs v s a b = true) (j : Nat) (h1 : a ≤ j) (h2 : j ≤ b) : j < l.length ∧ srel ρ s (l.set j x) := by
  induction s generalizing l a b j with
  | nil => cases ho
  | cons q r ih =>
    match q, h with
    | .inl e, ⟨y, l', e1, e2, h3⟩ =>
      subst e1
      rw [sgFit_def] at ho
      try dsimp only at ho
      split at ho
      · rename_i a b
        cases j with
        | zero => omega
        | succ j =>
          have h5 := ih h3 ho j (by omega) (by omega)
          exact ⟨Nat.succ_lt_succ h5.1, y, l'.set j x, rfl, e2, h5.2⟩
      · cases ho
    | .inr (m, lo, hi), ⟨l1, l2, e1, e2, e3, h3⟩ =>
      subst e1
      rw [sgFit_def] at ho
      try dsimp only at ho
      have inl : j < m → inF tab fs lo hi v = true → j < (l1 ++ l2).length ∧ srel ρ (.inr (m, lo, hi) :: r) ((l1 ++ l2).set j x) := fun hj hr => by
        refine ⟨by rw [List.length_append]; omega, ?_⟩
        rw [set_app_l (by omega)]
        have h7 := inF_ok ht hf hr
        refine ⟨l1.set j x, l2, rfl, by rw [List.length_set, e2], fun y hy => ?_, h3⟩
        rcases List.mem_or_eq_of_mem_set hy with q | q
        · exact e3 y q
        · subst q; rw [hx]; exact h7
      have inr : m ≤ j → (j - m < l2.length ∧ srel ρ r (l2.set (j - m) x)) → j < (l1 ++ l2).length ∧ srel ρ (.inr (m, lo, hi) :: r) ((l1 ++ l2).set j x) := fun hj hx => by
        refine ⟨by rw [List.length_append]; omega, ?_⟩
        rw [set_app_r (by omega), e2]
        exact ⟨l1, _, rfl, e2, e3, hx.2⟩
      cases h4 : Nat.blt a m with
      | true =>
        rw [h4] at ho
        have h5 := blt_iff.mp h4
        cases h6 : inF tab fs lo hi v with
        | false => rw [h6] at ho; cases ho
        | true =>
          rw [h6] at ho
          by_cases hj : j < m
          · exact inl hj h6
          · cases h8 : Nat.blt b m with
            | true => have h9 := blt_iff.mp h8; omega
            | false =>
              rw [h8] at ho
              exact inr (by omega) (ih h3 ho (j - m) (by omega) (by show j - m ≤ b - m; omega))
      | false =>
        rw [h4] at ho
        have h5 := blt_f h4
        exact inr (by omega) (ih h3 ho (j - m) (by show a - m ≤ j - m; omega) (by show j - m ≤ b - m; omega))
-- cells
abbrev AC : Type := (Nat × List AV) ⊕ (Nat × (List Sg ⊕ (Nat ⊕ List (Option Nat))))
abbrev AH : Type := List AC
abbrev AL : Type := List (Nat × AV)
/-- a whole row as one number: a row of which nothing is known but that it is the same as another -/
noncomputable def encN : List Int32 → Nat
  | [] => 0
  | x :: r => 1 + ((x.toInt + 2147483648).toNat + 4294967296 * encN r)
theorem encN_inj {a b : List Int32} (h : encN a = encN b) : a = b := by
  induction a generalizing b with
  | nil =>
    cases b with
    | nil => rfl
    | cons y q => unfold encN at h; omega
  | cons x r ih =>
    cases b with
    | nil => unfold encN at h; omega
    | cons y q =>
      unfold encN at h
      have hx := in32 x
      have hy := in32 y
      have e1 : lo32 = -2147483648 := rfl
      have e2 : hi32 = 2147483647 := rfl
      have h1 : x.toInt = y.toInt := by omega
      have h2 : encN r = encN q := by omega
      rw [ih h2, Int32.toInt_inj.mp h1]
noncomputable def conR (ρ : Nat → Int) (s : List Sg) (l : List Int32) : Prop := match s with
  | [.inl e] => (encN l : Int) = ev ρ e
  | _ => False
/-- an int array: k below 100 by segments, from 100 on (kind k - 100) as one number -/
noncomputable def arel (ρ : Nat → Int) (k : Nat) (s : List Sg) (c : SC) : Prop :=
  if k < 100 then ∃ l, c = .inr (k, .inl l) ∧ srel ρ s l else ∃ l, c = .inr (k - 100, .inl l) ∧ conR ρ s l
-- long rows: their length; from zB on: all zero
noncomputable def zB : Nat := 1000000000
noncomputable def jLen (m : Nat) : Nat := Nat.mod m zB
theorem zB_pos : 0 < zB := Nat.le_of_ble_eq_true rfl
theorem jLen_lt {m : Nat} (h : Nat.blt m zB = true) : jLen m = m := Nat.mod_eq_of_lt (blt_iff.mp h)
theorem jLen_small (m : Nat) : jLen m < zB := Nat.mod_lt m zB_pos
theorem jLen_add {x : Nat} (h : x < zB) : jLen (Nat.add zB x) = x := by
  have e : jLen (Nat.add zB x) = (zB + x) % zB := rfl
  rw [e, Nat.add_mod_left, Nat.mod_eq_of_lt h]
noncomputable def jOk (m : Nat) (l : List Int64) : Prop := l.length = jLen m ∧ (Nat.blt m zB = false → ∀ x ∈ l, x = 0)
noncomputable def crel (ρ : Nat → Int) (c : SC) (a : AC) : Prop := match a with
  | .inl (ci, as) => ∃ fs, c = .inl (ci, fs) ∧ rel2 (vrel ρ) fs as
  | .inr (k, .inl s) => arel ρ k s c
  | .inr (k, .inr (.inl m)) => ∃ l : List Int64, c = .inr (k, .inr (.inl l)) ∧ jOk m l
  | .inr (k, .inr (.inr q)) => c = .inr (k, .inr (.inr q))
theorem arel_mk {ρ : Nat → Int} {k : Nat} {s : List Sg} {l : List Int32} (hk : k < 100) (h : srel ρ s l) : arel ρ k s (.inr (k, .inl l)) := by
  unfold arel
  rw [if_pos hk]
  exact ⟨l, rfl, h⟩
theorem arel_any {ρ : Nat → Int} {k : Nat} {s : List Sg} {c : SC} (h : arel ρ k s c) : ∃ (k' : Nat) (l : List Int32), c = .inr (k', .inl l) := by
  unfold arel at h
  split at h
  · obtain ⟨l, e, -⟩ := h; exact ⟨_, l, e⟩
  · obtain ⟨l, e, -⟩ := h; exact ⟨_, l, e⟩
noncomputable def lvR (ρ : Nat → Int) (lv : LV) (al : AL) : Prop := ∀ q ∈ al, ∃ v, lvGet lv q.1 = some v ∧ vrel ρ v q.2
noncomputable def catA (a : AV) : Nat :=
  (Sum.rec (motive := fun _ => Nat) (fun x_414 => (Prod.rec (motive := fun _ => Nat) (fun x_416 x_417 => (Bool.rec (motive := fun _ => Nat) (nat_lit 1) (nat_lit 2) x_416)) x_414)) (fun x_415 => (nat_lit 1)) a)
theorem catA_def (a : AV) : catA a = (match a with
  | .inl (true, _) => 2
  | _ => 1) := by
  show (Sum.rec (motive := fun _ => Nat) (fun x_414 => (Prod.rec (motive := fun _ => Nat) (fun x_416 x_417 => (Bool.rec (motive := fun _ => Nat) (nat_lit 1) (nat_lit 2) x_416)) x_414)) (fun x_415 => (nat_lit 1)) a) = _
  try simp only [iAddQ_eq, iMulQ_eq, iNegQ_eq, lenQ_eq, nthQ_eq, setQ_eq, appQ_eq, mapQ_eq, allQ_eq, anyQ_eq, dropQ_eq, takeQ_eq, revQ_eq, getDQ_eq, optLQ_eq, brecC]
  all_goals
    cases a with
    | inl y_418 =>
      try dsimp only [cond_false, cond_true]
      all_goals
        cases y_418 with
        | mk y_419 y_420 =>
          try dsimp only [cond_false, cond_true]
          all_goals
            cases y_419 with
            | false =>
              try dsimp only [cond_false, cond_true]
              all_goals rfl
            | true =>
              try dsimp only [cond_false, cond_true]
              all_goals rfl
    | inr y_421 =>
      try dsimp only [cond_false, cond_true]
      all_goals rfl
theorem catA_ok {ρ : Nat → Int} {v : Value} {a : AV} (h : vrel ρ v a) : v.category = catA a := by
  match a, h with
  | .inl (false, e), ⟨x, e1, _⟩ => subst e1; rfl
  | .inl (true, e), ⟨x, e1, _⟩ => subst e1; rfl
  | .inr (.inl (some i)), e1 => rw [show v = .ref i from e1]; rfl
  | .inr (.inl none), e1 => rw [show v = .null from e1]; rfl
  | .inr (.inr (p, q)), e1 => rw [show v = .int _ from e1]; rfl
noncomputable def okVA (n : Nat) (a : AV) : Bool :=
  (Sum.rec (motive := fun _ => Bool) (fun x_422 => true) (fun x_423 => (Sum.rec (motive := fun _ => Bool) (fun x_424 => (Option.rec (motive := fun _ => Bool) true (fun i_426 => (Bool.rec (motive := fun _ => Bool) (Nat.beq i_426 sIdx) true (Nat.blt i_426 n))) x_424)) (fun x_425 => true) x_423)) a)
theorem okVA_def (n : Nat) (a : AV) : okVA n a = (match a with
  | .inr (.inl (some i)) => bif Nat.blt i n then true else Nat.beq i sIdx
  | _ => true) := by
  show (Sum.rec (motive := fun _ => Bool) (fun x_422 => true) (fun x_423 => (Sum.rec (motive := fun _ => Bool) (fun x_424 => (Option.rec (motive := fun _ => Bool) true (fun i_426 => (Bool.rec (motive := fun _ => Bool) (Nat.beq i_426 sIdx) true (Nat.blt i_426 n))) x_424)) (fun x_425 => true) x_423)) a) = _
  try simp only [iAddQ_eq, iMulQ_eq, iNegQ_eq, lenQ_eq, nthQ_eq, setQ_eq, appQ_eq, mapQ_eq, allQ_eq, anyQ_eq, dropQ_eq, takeQ_eq, revQ_eq, getDQ_eq, optLQ_eq, brecC]
  all_goals
    cases a with
    | inl y_427 =>
      try dsimp only [cond_false, cond_true]
      all_goals rfl
    | inr y_428 =>
      try dsimp only [cond_false, cond_true]
      all_goals
        cases y_428 with
        | inl y_429 =>
          try dsimp only [cond_false, cond_true]
          all_goals
            cases y_429 with
            | none =>
              try dsimp only [cond_false, cond_true]
              all_goals rfl
            | some y_430 =>
              try dsimp only [cond_false, cond_true]
              all_goals
                cases hq_4 : (Nat.blt y_430 n) with
                | false =>
                  try dsimp only [cond_false, cond_true]
                  all_goals rfl
                | true =>
                  try dsimp only [cond_false, cond_true]
                  all_goals rfl
        | inr y_431 =>
          try dsimp only [cond_false, cond_true]
          all_goals rfl
theorem okVA_ok {ρ : Nat → Int} {n : Nat} {v : Value} {a : AV} (h : vrel ρ v a) (ha : okVA n a = true) : okV n v = true := by
  match a, h with
  | .inl (false, e), ⟨x, e1, _⟩ => subst e1; rfl
  | .inl (true, e), ⟨x, e1, _⟩ => subst e1; rfl
  | .inr (.inl (some i)), e1 =>
    rw [show v = .ref i from e1]
    simp only [okV, Bool.or_eq_true, decide_eq_true_eq, beq_iff_eq]
    rw [okVA_def] at ha
    cases h1 : Nat.blt i n with
    | true => exact Or.inl (blt_iff.mp h1)
    | false => simp only [h1] at ha; exact Or.inr (Nat.eq_of_beq_eq_true ha)
  | .inr (.inl none), e1 => rw [show v = .null from e1]; rfl
  | .inr (.inr (p, q)), e1 => rw [show v = .int _ from e1]; rfl
noncomputable def alGet (k : Nat) : AL → Option AV :=
  fun e_0 => List.rec (motive := fun _ => Option AV) none (fun h_0 t_0 ih => (Prod.rec (motive := fun _ => Option AV) (fun j_432 a_433 => (Bool.rec (motive := fun _ => Option AV) (ih) (some a_433) (Nat.beq k j_432))) h_0)) e_0 
theorem alGet_def (k : Nat) (e_0 : AL) : alGet k e_0 = (match e_0 with
  | [] => none
  | (j, a) :: r => bif Nat.beq k j then some a else alGet k r) := by
  cases e_0 with
  | nil =>
    show none = _
    try simp only [iAddQ_eq, iMulQ_eq, iNegQ_eq, lenQ_eq, nthQ_eq, setQ_eq, appQ_eq, mapQ_eq, allQ_eq, anyQ_eq, dropQ_eq, takeQ_eq, revQ_eq, getDQ_eq, optLQ_eq, brecC]
    all_goals rfl
  | cons h_0 t_0 =>
    show (Prod.rec (motive := fun _ => Option AV) (fun j_434 a_435 => (Bool.rec (motive := fun _ => Option AV) (alGet k t_0) (some a_435) (Nat.beq k j_434))) h_0) = _
    try simp only [iAddQ_eq, iMulQ_eq, iNegQ_eq, lenQ_eq, nthQ_eq, setQ_eq, appQ_eq, mapQ_eq, allQ_eq, anyQ_eq, dropQ_eq, takeQ_eq, revQ_eq, getDQ_eq, optLQ_eq, brecC]
    all_goals
      cases h_0 with
      | mk y_436 y_437 =>
        try dsimp only [cond_false, cond_true]
        all_goals
          cases hq_2 : (Nat.beq k y_436) with
          | false =>
            try dsimp only [cond_false, cond_true]
            all_goals rfl
          | true =>
            try dsimp only [cond_false, cond_true]
            all_goals rfl
theorem alGet_mem {k : Nat} {al : AL} {a : AV} (h : alGet k al = some a) : (k, a) ∈ al := by
  induction al with
  | nil => cases h
  | cons q r ih =>
    obtain ⟨j, b⟩ := q
    rw [alGet_def] at h
    try dsimp only at h
    cases h1 : Nat.beq k j with
    | true => rw [h1] at h; cases h; rw [Nat.eq_of_beq_eq_true h1]; exact List.mem_cons_self
    | false => rw [h1] at h; exact List.mem_cons_of_mem _ (ih h)
theorem lvR_get {ρ : Nat → Int} {lv : LV} {al : AL} (h : lvR ρ lv al) {k : Nat} {a : AV} (hg : alGet k al = some a) : ∃ v, lvGet lv k = some v ∧ vrel ρ v a := h (k, a) (alGet_mem hg)
/-- the locals k (and k + 1, and a long that reaches into k) go -/
noncomputable def alDel (two : Bool) (k : Nat) : AL → AL :=
  fun e_0 => List.rec (motive := fun _ => AL) [] (fun h_0 t_0 ih => (Prod.rec (motive := fun _ => AL) (fun j_438 a_439 => (Bool.rec (motive := fun _ => AL) (Bool.rec (motive := fun _ => AL) (Bool.rec (motive := fun _ => AL) ((j_438, a_439) :: (ih)) (ih) (Bool.rec (motive := fun _ => Bool) false (Nat.beq (catA a_439) (nat_lit 2)) (Nat.beq (Nat.succ j_438) k))) (ih) (Bool.rec (motive := fun _ => Bool) false (Nat.beq j_438 (Nat.succ k)) two)) (ih) (Nat.beq j_438 k))) h_0)) e_0 
theorem alDel_def (two : Bool) (k : Nat) (e_0 : AL) : alDel two k e_0 = (match e_0 with
  | [] => []
  | (j, a) :: r => bif Nat.beq j k then alDel two k r else bif (bif two then Nat.beq j (Nat.succ k) else false) then alDel two k r else bif (bif Nat.beq (Nat.succ j) k then Nat.beq (catA a) 2 else false) then alDel two k r else (j, a) :: alDel two k r) := by
  cases e_0 with
  | nil =>
    show [] = _
    try simp only [iAddQ_eq, iMulQ_eq, iNegQ_eq, lenQ_eq, nthQ_eq, setQ_eq, appQ_eq, mapQ_eq, allQ_eq, anyQ_eq, dropQ_eq, takeQ_eq, revQ_eq, getDQ_eq, optLQ_eq, brecC]
    all_goals rfl
  | cons h_0 t_0 =>
    show (Prod.rec (motive := fun _ => AL) (fun j_440 a_441 => (Bool.rec (motive := fun _ => AL) (Bool.rec (motive := fun _ => AL) (Bool.rec (motive := fun _ => AL) ((j_440, a_441) :: (alDel two k t_0)) (alDel two k t_0) (Bool.rec (motive := fun _ => Bool) false (Nat.beq (catA a_441) (nat_lit 2)) (Nat.beq (Nat.succ j_440) k))) (alDel two k t_0) (Bool.rec (motive := fun _ => Bool) false (Nat.beq j_440 (Nat.succ k)) two)) (alDel two k t_0) (Nat.beq j_440 k))) h_0) = _
    try simp only [iAddQ_eq, iMulQ_eq, iNegQ_eq, lenQ_eq, nthQ_eq, setQ_eq, appQ_eq, mapQ_eq, allQ_eq, anyQ_eq, dropQ_eq, takeQ_eq, revQ_eq, getDQ_eq, optLQ_eq, brecC]
    all_goals
      cases h_0 with
      | mk y_442 y_443 =>
        try dsimp only [cond_false, cond_true]
        all_goals
          cases hq_2 : (Nat.beq y_442 k) with
          | false =>
            try dsimp only [cond_false, cond_true]
            all_goals
              cases hq_3 : ((bif two then (Nat.beq y_442 ((Nat.succ k))) else false)) with
              | false =>
                try dsimp only [cond_false, cond_true]
                all_goals
                  cases hq_4 : ((bif (Nat.beq ((Nat.succ y_442)) k) then (Nat.beq ((catA y_443)) 2) else false)) with
                  | false =>
                    try dsimp only [cond_false, cond_true]
                    all_goals rfl
                  | true =>
                    try dsimp only [cond_false, cond_true]
                    all_goals rfl
              | true =>
                try dsimp only [cond_false, cond_true]
                all_goals rfl
          | true =>
            try dsimp only [cond_false, cond_true]
            all_goals rfl
theorem lvGet_nil (j : Nat) : lvGet [] j = none := rfl
theorem lvGet_cons (p : Nat × Value) (lv : LV) (j : Nat) : lvGet (p :: lv) j = if p.1 = j then some p.2 else lvGet lv j := by
  unfold lvGet
  rw [List.find?_cons]
  by_cases h : p.1 = j
  · have : (p.1 == j) = true := by simpa using h
    rw [this, if_pos h]
    rfl
  · have : (p.1 == j) = false := by simpa using h
    rw [this, if_neg h]
theorem lvGet_filter {f : Nat × Value → Bool} {lv : LV} {j : Nat} {v : Value} (h : lvGet lv j = some v) (hf : f (j, v) = true) : lvGet (lv.filter f) j = some v := by
  induction lv with
  | nil => cases h
  | cons p lv ih =>
    rw [lvGet_cons] at h
    by_cases hp : p.1 = j
    · rw [if_pos hp] at h
      cases h
      have e : p = (j, p.2) := by rw [← hp]
      rw [List.filter_cons, if_pos (by rw [e]; exact hf), lvGet_cons, if_pos hp]
    · rw [if_neg hp] at h
      rw [List.filter_cons]
      split
      · rw [lvGet_cons, if_neg hp]; exact ih h
      · exact ih h
theorem lvR_set1 {ρ : Nat → Int} {lv : LV} {al : AL} (h : lvR ρ lv al) {k : Nat} {v : Value} {a : AV} (hv : vrel ρ v a) : lvR ρ (lvSet1 lv k v) ((k, a) :: alDel false k al) := by
  have key : ∀ al : AL, lvR ρ lv al → ∀ q ∈ alDel false k al, ∃ w, lvGet (lvSet1 lv k v) q.1 = some w ∧ vrel ρ w q.2 := by
    intro al
    induction al with
    | nil => intro _ q hq; cases hq
    | cons p r ih =>
      obtain ⟨j, b⟩ := p
      intro hr
      have hr2 := ih (fun q hq => hr q (List.mem_cons_of_mem _ hq))
      intro q hq
      rw [alDel_def] at hq
      try dsimp only at hq
      cases h1 : Nat.beq j k with
      | true => rw [h1] at hq; exact hr2 q hq
      | false =>
        simp only [h1, cond_false] at hq
        cases h2 : (bif Nat.beq (Nat.succ j) k then Nat.beq (catA b) 2 else false) with
        | true => rw [h2] at hq; exact hr2 q hq
        | false =>
          rw [h2] at hq
          rcases List.mem_cons.mp hq with rfl | hq
          · obtain ⟨w, w1, w2⟩ := hr (j, b) List.mem_cons_self
            refine ⟨w, ?_, w2⟩
            try dsimp only at w1 w2 ⊢
            have hjk : ¬ j = k := fun q => by rw [q, Nat.beq_refl] at h1; cases h1
            unfold lvSet1
            rw [lvGet_cons, if_neg (fun q : k = j => hjk q.symm)]
            refine lvGet_filter w1 ?_
            have hc := catA_ok w2
            have h3 : (j == k) = false := by simpa using hjk
            simp only [h3, Bool.not_false, Bool.true_and]
            by_cases h4 : j + 1 = k
            · have h5 : Nat.beq (Nat.succ j) k = true := Nat.beq_eq.mpr h4
              rw [h5] at h2
              have h6 : ¬ catA b = 2 := fun q => by rw [q] at h2; cases h2
              rw [← hc] at h6
              have h7 : (w.category == 2) = false := by simpa using h6
              rw [h7, Bool.and_false]
              rfl
            · have h7 : (j + 1 == k) = false := by simpa using h4
              rw [h7]
              rfl
          · exact hr2 q hq
  intro q hq
  rcases List.mem_cons.mp hq with rfl | hq
  · refine ⟨v, ?_, hv⟩
    unfold lvSet1
    rw [lvGet_cons, if_pos rfl]
  · exact key al h q hq
theorem lvR_set2 {ρ : Nat → Int} {lv : LV} {al : AL} (h : lvR ρ lv al) {k : Nat} {v : Value} {a : AV} (hv : vrel ρ v a) : lvR ρ (lvSet2 lv k v) ((k, a) :: alDel true k al) := by
  have key : ∀ al : AL, lvR ρ lv al → ∀ q ∈ alDel true k al, ∃ w, lvGet (lvSet2 lv k v) q.1 = some w ∧ vrel ρ w q.2 := by
    intro al
    induction al with
    | nil => intro _ q hq; cases hq
    | cons p r ih =>
      obtain ⟨j, b⟩ := p
      intro hr
      have hr2 := ih (fun q hq => hr q (List.mem_cons_of_mem _ hq))
      intro q hq
      rw [alDel_def] at hq
      try dsimp only at hq
      cases h1 : Nat.beq j k with
      | true => rw [h1] at hq; exact hr2 q hq
      | false =>
        simp only [h1, cond_false, cond_true] at hq
        cases h1' : Nat.beq j (Nat.succ k) with
        | true => rw [h1'] at hq; exact hr2 q hq
        | false =>
          rw [h1'] at hq
          simp only [cond_false] at hq
          cases h2 : (bif Nat.beq (Nat.succ j) k then Nat.beq (catA b) 2 else false) with
          | true => rw [h2] at hq; exact hr2 q hq
          | false =>
            rw [h2] at hq
            rcases List.mem_cons.mp hq with rfl | hq
            · obtain ⟨w, w1, w2⟩ := hr (j, b) List.mem_cons_self
              refine ⟨w, ?_, w2⟩
              try dsimp only at w1 w2 ⊢
              have hjk : ¬ j = k := fun q => by rw [q, Nat.beq_refl] at h1; cases h1
              have hjk' : ¬ j = k + 1 := fun q => by rw [q] at h1'; simp at h1'
              unfold lvSet2
              rw [lvGet_cons, if_neg (fun q : k = j => hjk q.symm)]
              refine lvGet_filter w1 ?_
              have hc := catA_ok w2
              have h3 : (j == k) = false := by simpa using hjk
              have h3' : (j == k + 1) = false := by simpa using hjk'
              simp only [h3, h3', Bool.not_false, Bool.true_and]
              by_cases h4 : j + 1 = k
              · have h5 : Nat.beq (Nat.succ j) k = true := Nat.beq_eq.mpr h4
                rw [h5] at h2
                have h6 : ¬ catA b = 2 := fun q => by rw [q] at h2; cases h2
                rw [← hc] at h6
                have h7 : (w.category == 2) = false := by simpa using h6
                rw [h7, Bool.and_false]
                rfl
              · have h7 : (j + 1 == k) = false := by simpa using h4
                rw [h7]
                rfl
            · exact hr2 q hq
  intro q hq
  rcases List.mem_cons.mp hq with rfl | hq
  · refine ⟨v, ?_, hv⟩
    unfold lvSet2
    rw [lvGet_cons, if_pos rfl]
  · exact key al h q hq
noncomputable def lvOk (n : Nat) (lv : LV) : Prop := ∀ q ∈ lv, okV n q.2 = true
theorem lvOk_set1 {n : Nat} {lv : LV} (h : lvOk n lv) {k : Nat} {v : Value} (hv : okV n v = true) : lvOk n (lvSet1 lv k v) := fun q hq => (List.mem_cons.mp hq).elim (fun e => e ▸ hv) (fun hq => h q (List.mem_filter.mp hq).1)
theorem lvOk_set2 {n : Nat} {lv : LV} (h : lvOk n lv) {k : Nat} {v : Value} (hv : okV n v = true) : lvOk n (lvSet2 lv k v) := fun q hq => (List.mem_cons.mp hq).elim (fun e => e ▸ hv) (fun hq => h q (List.mem_filter.mp hq).1)
theorem okV_le {n m : Nat} (h : n ≤ m) {v : Value} (hv : okV n v = true) : okV m v = true := by
  cases v with
  | ref i =>
    simp only [okV, Bool.or_eq_true, decide_eq_true_eq, beq_iff_eq] at hv ⊢
    rcases hv with q | q
    · exact Or.inl (Nat.lt_of_lt_of_le q h)
    · exact Or.inr q
  | _ => rfl
theorem lvOk_le {n m : Nat} (hn : n ≤ m) {lv : LV} (h : lvOk n lv) : lvOk m lv := fun q hq => okV_le hn (h q hq)
