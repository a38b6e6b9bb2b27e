/-! ===== abstract cells, heaps, locals ===== -/
noncomputable def rel2 {α β : Type} (R : α → β → Prop) : List α → List β → Prop
  | [], [] => True
  | a :: l, b :: r => R a b ∧ rel2 R l r
  | [], _ :: _ => False
  | _ :: _, [] => False
section REL
variable {α β : Type} {R : α → β → Prop}
theorem rel2_nil {l : List α} (h : rel2 R l []) : l = [] := by cases l with
  | nil => rfl
  | cons a l => exact h.elim
theorem rel2_cons {l : List α} {b : β} {r : List β} (h : rel2 R l (b :: r)) : ∃ a l', l = a :: l' ∧ R a b ∧ rel2 R l' r := by cases l with
  | nil => exact h.elim
  | cons a l => exact ⟨a, l, rfl, h.1, h.2⟩
theorem rel2_len {l : List α} {r : List β} (h : rel2 R l r) : l.length = r.length := by
  induction r generalizing l with
  | nil => rw [rel2_nil h]; rfl
  | cons b r ih => obtain ⟨a, l', rfl, -, h2⟩ := rel2_cons h; simp [ih h2]
theorem rel2_get {l : List α} {r : List β} (h : rel2 R l r) {i : Nat} {b : β} (hb : r[i]? = some b) : ∃ a, l[i]? = some a ∧ R a b := by
  induction r generalizing l i with
  | nil => cases hb
  | cons c r ih =>
    obtain ⟨a, l', rfl, h1, h2⟩ := rel2_cons h
    cases i with
    | zero => cases hb; exact ⟨a, rfl, h1⟩
    | succ i => exact ih h2 hb
theorem rel2_get' {l : List α} {r : List β} (h : rel2 R l r) {i : Nat} {a : α} (ha : l[i]? = some a) : ∃ b, r[i]? = some b ∧ R a b := by
  induction r generalizing l i with
  | nil => rw [rel2_nil h] at ha; cases ha
  | cons c r ih =>
    obtain ⟨a', l', rfl, h1, h2⟩ := rel2_cons h
    cases i with
    | zero => cases ha; exact ⟨c, rfl, h1⟩
    | succ i => exact ih h2 ha
theorem rel2_set {l : List α} {r : List β} (h : rel2 R l r) {i : Nat} {a : α} {b : β} (hab : R a b) : rel2 R (l.set i a) (r.set i b) := by
  induction r generalizing l i with
  | nil => rw [rel2_nil h]; exact trivial
  | cons c r ih =>
    obtain ⟨a', l', rfl, h1, h2⟩ := rel2_cons h
    cases i with
    | zero => exact ⟨hab, h2⟩
    | succ i => exact ⟨h1, ih h2⟩
theorem rel2_app {l l2 : List α} {r r2 : List β} (h : rel2 R l r) (h2 : rel2 R l2 r2) : rel2 R (l ++ l2) (r ++ r2) := by
  induction r generalizing l with
  | nil => rw [rel2_nil h]; exact h2
  | cons c r ih => obtain ⟨a', l', rfl, h3, h4⟩ := rel2_cons h; exact ⟨h3, ih h4⟩
theorem rel2_imp {R' : α → β → Prop} (hi : ∀ a b, R a b → R' a b) {l : List α} {r : List β} (h : rel2 R l r) : rel2 R' l r := by
  induction r generalizing l with
  | nil => rw [rel2_nil h]; exact trivial
  | cons c r ih => obtain ⟨a', l', rfl, h3, h4⟩ := rel2_cons h; exact ⟨hi _ _ h3, ih h4⟩
theorem rel2_map {γ δ : Type} {R' : γ → δ → Prop} {f : α → γ} {g : β → δ} (hi : ∀ a b, R a b → R' (f a) (g b)) {l : List α} {r : List β} (h : rel2 R l r) : rel2 R' (l.map f) (r.map g) := by
  induction r generalizing l with
  | nil => rw [rel2_nil h]; exact trivial
  | cons c r ih => obtain ⟨a', l', rfl, h3, h4⟩ := rel2_cons h; exact ⟨hi _ _ h3, ih h4⟩
theorem rel2_drop {l : List α} {r : List β} (h : rel2 R l r) (n : Nat) : rel2 R (l.drop n) (r.drop n) := by
  induction r generalizing l n with
  | nil => rw [rel2_nil h]; simp [rel2]
  | cons c r ih =>
    obtain ⟨a', l', rfl, h3, h4⟩ := rel2_cons h
    cases n with
    | zero => exact ⟨h3, h4⟩
    | succ n => exact ih h4 n
theorem rel2_take {l : List α} {r : List β} (h : rel2 R l r) (n : Nat) : rel2 R (l.take n) (r.take n) := by
  induction r generalizing l n with
  | nil => rw [rel2_nil h]; simp [rel2]
  | cons c r ih =>
    obtain ⟨a', l', rfl, h3, h4⟩ := rel2_cons h
    cases n with
    | zero => exact trivial
    | succ n => exact ⟨h3, ih h4 n⟩
theorem rel2_rev {l : List α} {r : List β} (h : rel2 R l r) : rel2 R l.reverse r.reverse := by
  induction r generalizing l with
  | nil => rw [rel2_nil h]; exact trivial
  | cons c r ih =>
    obtain ⟨a', l', rfl, h3, h4⟩ := rel2_cons h
    rw [List.reverse_cons, List.reverse_cons]
    exact rel2_app (ih h4) ⟨h3, trivial⟩
end REL
-- int arrays in segments
abbrev Sg : Type := Ln ⊕ (Nat × Int × Int)
noncomputable def srel (ρ : Nat → Int) : List Sg → List Int32 → Prop
  | [], l => l = []
  | .inl e :: r, l => ∃ (x : Int32) (l' : List Int32), l = x :: l' ∧ x.toInt = ev ρ e ∧ srel ρ r l'
  | .inr (m, lo, hi) :: r, l => ∃ l1 l2 : List Int32, l = l1 ++ l2 ∧ l1.length = m ∧ (∀ x ∈ l1, lo ≤ x.toInt ∧ x.toInt ≤ hi) ∧ srel ρ r l2
noncomputable def sgLen  : List Sg → Nat :=
  fun e_0 => List.rec (motive := fun _ => Nat) (nat_lit 0) (fun h_0 t_0 ih => (Sum.rec (motive := fun _ => Nat) (fun x_269 => (Nat.succ (ih))) (fun x_270 => (Prod.rec (motive := fun _ => Nat) (fun m_271 x_272 => (Prod.rec (motive := fun _ => Nat) (fun x_273 x_274 => (Nat.add m_271 (ih))) x_272)) x_270)) h_0)) e_0 
theorem sgLen_def  (e_0 : List Sg) : sgLen  e_0 = (match e_0 with
  | [] => 0
  | .inl _ :: r => Nat.succ (sgLen r)
  | .inr (m, _, _) :: r => Nat.add m (sgLen r)) := by
  cases e_0 with
  | nil =>
    show (nat_lit 0) = _
    try simp only [iAddQ_eq, iMulQ_eq, iNegQ_eq, lenQ_eq, nthQ_eq, setQ_eq, appQ_eq, mapQ_eq, allQ_eq, anyQ_eq, dropQ_eq, takeQ_eq, revQ_eq, getDQ_eq, optLQ_eq, brecC]
    all_goals rfl
  | cons h_0 t_0 =>
    show (Sum.rec (motive := fun _ => Nat) (fun x_275 => (Nat.succ (sgLen t_0))) (fun x_276 => (Prod.rec (motive := fun _ => Nat) (fun m_277 x_278 => (Prod.rec (motive := fun _ => Nat) (fun x_279 x_280 => (Nat.add m_277 (sgLen t_0))) x_278)) x_276)) h_0) = _
    try simp only [iAddQ_eq, iMulQ_eq, iNegQ_eq, lenQ_eq, nthQ_eq, setQ_eq, appQ_eq, mapQ_eq, allQ_eq, anyQ_eq, dropQ_eq, takeQ_eq, revQ_eq, getDQ_eq, optLQ_eq, brecC]
    all_goals
      cases h_0 with
      | inl y_281 =>
        try dsimp only [cond_false, cond_true]
        all_goals rfl
      | inr y_282 =>
        try dsimp only [cond_false, cond_true]
        all_goals
          cases y_282 with
          | mk y_283 y_284 =>
            try dsimp only [cond_false, cond_true]
            all_goals
              cases y_284 with
              | mk y_285 y_286 =>
                try dsimp only [cond_false, cond_true]
                all_goals rfl
theorem srel_len {ρ : Nat → Int} {s : List Sg} {l : List Int32} (h : srel ρ s l) : l.length = sgLen s := by
  induction s generalizing l with
  | nil => rw [h]; rfl
  | cons q r ih =>
    match q, h with
    | .inl e, ⟨x, l', e1, _, h2⟩ =>
      subst e1
      rw [List.length_cons, ih h2]
      rfl
    | .inr (m, lo, hi), ⟨l1, l2, e1, h1, _, h2⟩ =>
      subst e1
      rw [List.length_append, h1, ih h2]
      rfl
noncomputable def sgAt  : List Sg → Nat → Option OR :=
  fun e_0 e_1 => List.rec (motive := fun _ => Nat → Option OR) (fun e_1 => none) (fun h_0 t_0 ih e_1 => (Sum.rec (motive := fun _ => Option OR) (fun e_287 => (Nat.rec (motive := fun _ => Option OR) (some (.inl e_287)) (fun k_289 _ => (ih k_289)) e_1)) (fun x_288 => (Prod.rec (motive := fun _ => Option OR) (fun m_290 x_291 => (Prod.rec (motive := fun _ => Option OR) (fun lo_292 hi_293 => (Bool.rec (motive := fun _ => Option OR) (ih (Nat.sub e_1 m_290)) (some (.inr (lo_292, hi_293, none))) (Nat.blt e_1 m_290))) x_291)) x_288)) h_0)) e_0 e_1
theorem sgAt_def  (e_0 : List Sg) (e_1 : Nat) : sgAt  e_0 e_1 = (match e_0, e_1 with
  | [], _ => none
  | .inl e :: r, k => match k with
    | 0 => some (.inl e)
    | k + 1 => sgAt r k
  | .inr (m, lo, hi) :: r, k => bif Nat.blt k m then some (.inr (lo, hi, none)) else sgAt r (Nat.sub k m)) := by
  cases e_0 with
  | nil =>
    show none = _
    try simp only [iAddQ_eq, iMulQ_eq, iNegQ_eq, lenQ_eq, nthQ_eq, setQ_eq, appQ_eq, mapQ_eq, allQ_eq, anyQ_eq, dropQ_eq, takeQ_eq, revQ_eq, getDQ_eq, optLQ_eq, brecC]
    all_goals rfl
  | cons h_0 t_0 =>
    show (Sum.rec (motive := fun _ => Option OR) (fun e_294 => (Nat.rec (motive := fun _ => Option OR) (some (.inl e_294)) (fun k_296 _ => (sgAt t_0 k_296)) e_1)) (fun x_295 => (Prod.rec (motive := fun _ => Option OR) (fun m_297 x_298 => (Prod.rec (motive := fun _ => Option OR) (fun lo_299 hi_300 => (Bool.rec (motive := fun _ => Option OR) (sgAt t_0 (Nat.sub e_1 m_297)) (some (.inr (lo_299, hi_300, none))) (Nat.blt e_1 m_297))) x_298)) x_295)) h_0) = _
    try simp only [iAddQ_eq, iMulQ_eq, iNegQ_eq, lenQ_eq, nthQ_eq, setQ_eq, appQ_eq, mapQ_eq, allQ_eq, anyQ_eq, dropQ_eq, takeQ_eq, revQ_eq, getDQ_eq, optLQ_eq, brecC]
    all_goals
      cases h_0 with
      | inl y_301 =>
        try dsimp only [cond_false, cond_true]
        all_goals
          cases e_1 with
          | zero =>
            try dsimp only [cond_false, cond_true]
            all_goals rfl
          | succ y_302 =>
            try dsimp only [cond_false, cond_true]
            all_goals rfl
      | inr y_303 =>
        try dsimp only [cond_false, cond_true]
        all_goals
          cases y_303 with
          | mk y_304 y_305 =>
            try dsimp only [cond_false, cond_true]
            all_goals
              cases y_305 with
              | mk y_306 y_307 =>
                try dsimp only [cond_false, cond_true]
                all_goals
                  cases hq_5 : (Nat.blt e_1 y_304) with
                  | false =>
                    try dsimp only [cond_false, cond_true]
                    all_goals rfl
                  | true =>
                    try dsimp only [cond_false, cond_true]
                    all_goals rfl
theorem blt_iff {a b : Nat} : Nat.blt a b = true ↔ a < b := by
  show Nat.ble (a + 1) b = true ↔ _
  rw [Nat.ble_eq]
  exact Iff.rfl
theorem blt_f {a b : Nat} (h : Nat.blt a b = false) : b ≤ a := by
  cases Nat.lt_or_ge a b with
  | inl q => rw [blt_iff.mpr q] at h; cases h
  | inr q => exact q
theorem sgAt_ok {ρ : Nat → Int} {s : List Sg} {l : List Int32} (h : srel ρ s l) {k : Nat} {o : OR} (ho : sgAt s k = some o) : ∃ x, l[k]? = some x ∧ orOk ρ x.toInt o := by
  induction s generalizing l k with
  | nil => cases ho
  | cons q r ih =>
    match q, h with
    | .inl e, ⟨x, l', e1, e2, h2⟩ =>
      subst e1
      cases k with
      | zero => cases ho; exact ⟨x, rfl, e2⟩
      | succ k => exact ih h2 ho
    | .inr (m, lo, hi), ⟨l1, l2, e1, e2, e3, h2⟩ =>
      subst e1
      rw [sgAt_def] at ho
      try dsimp only at ho
      cases h3 : Nat.blt k m with
      | true =>
        rw [h3] at ho
        cases ho
        have h4 := blt_iff.mp h3
        refine ⟨l1[k]'(by omega), ?_, e3 _ (List.getElem_mem _), fun _ h => by cases h⟩
        rw [List.getElem?_append_left (by omega), List.getElem?_eq_getElem]
      | false =>
        rw [h3] at ho
        have h4 := blt_f h3
        obtain ⟨x, h5, h6⟩ := ih h2 ho
        refine ⟨x, ?_, h6⟩
        rw [List.getElem?_append_right (by omega), e2]
        exact h5
noncomputable def joinB (a b : Option (Int × Int)) : Option (Int × Int) :=
  (Option.rec (motive := fun _ => Option (Int × Int)) none (fun x_308 => (Prod.rec (motive := fun _ => Option (Int × Int)) (fun l1_309 h1_310 => (Option.rec (motive := fun _ => Option (Int × Int)) none (fun x_311 => (Prod.rec (motive := fun _ => Option (Int × Int)) (fun l2_312 h2_313 => (some ((Bool.rec (motive := fun _ => _) l2_312 l1_309 (leI l1_309 l2_312)), (Bool.rec (motive := fun _ => _) h1_310 h2_313 (leI h1_310 h2_313))))) x_311)) b)) x_308)) a)
theorem joinB_def (a b : Option (Int × Int)) : joinB a b = (match a, b with
  | some (l1, h1), some (l2, h2) => some (bif leI l1 l2 then l1 else l2, bif leI h1 h2 then h2 else h1)
  | _, _ => none) := by
  show (Option.rec (motive := fun _ => Option (Int × Int)) none (fun x_308 => (Prod.rec (motive := fun _ => Option (Int × Int)) (fun l1_309 h1_310 => (Option.rec (motive := fun _ => Option (Int × Int)) none (fun x_311 => (Prod.rec (motive := fun _ => Option (Int × Int)) (fun l2_312 h2_313 => (some ((Bool.rec (motive := fun _ => _) l2_312 l1_309 (leI l1_309 l2_312)), (Bool.rec (motive := fun _ => _) h1_310 h2_313 (leI h1_310 h2_313))))) x_311)) b)) x_308)) a) = _
  try simp only [iAddQ_eq, iMulQ_eq, iNegQ_eq, lenQ_eq, nthQ_eq, setQ_eq, appQ_eq, mapQ_eq, allQ_eq, anyQ_eq, dropQ_eq, takeQ_eq, revQ_eq, getDQ_eq, optLQ_eq, brecC]
  all_goals
    cases a with
    | none =>
      try dsimp only [cond_false, cond_true]
      all_goals rfl
    | some y_314 =>
      try dsimp only [cond_false, cond_true]
      all_goals
        cases y_314 with
        | mk y_315 y_316 =>
          try dsimp only [cond_false, cond_true]
          all_goals
            cases b with
            | none =>
              try dsimp only [cond_false, cond_true]
              all_goals rfl
            | some y_317 =>
              try dsimp only [cond_false, cond_true]
              all_goals
                cases y_317 with
                | mk y_318 y_319 =>
                  try dsimp only [cond_false, cond_true]
                  all_goals rfl
theorem joinB_ok {a b : Option (Int × Int)} {lo hi : Int} (h : joinB a b = some (lo, hi)) : (∃ l1 h1, a = some (l1, h1) ∧ lo ≤ l1 ∧ h1 ≤ hi) ∧ ∃ l2 h2, b = some (l2, h2) ∧ lo ≤ l2 ∧ h2 ≤ hi := by
  rw [joinB_def] at h
  split at h
  · rename_i l1 h1 l2 h2
    cases h
    refine ⟨⟨_, _, rfl, ?_, ?_⟩, ⟨_, _, rfl, ?_, ?_⟩⟩
    · cases h3 : leI l1 l2 with
      | true => exact Int.le_refl _
      | false => have : ¬ l1 ≤ l2 := fun q => by rw [leI_iff.mpr q] at h3; cases h3
                 show l2 ≤ l1; omega
    · cases h3 : leI h1 h2 with
      | true => exact leI_le h3
      | false => exact Int.le_refl _
    · cases h3 : leI l1 l2 with
      | true => exact leI_le h3
      | false => exact Int.le_refl _
    · cases h3 : leI h1 h2 with
      | true => exact Int.le_refl _
      | false => have : ¬ h1 ≤ h2 := fun q => by rw [leI_iff.mpr q] at h3; cases h3
                 show h2 ≤ h1; omega
  · cases h
noncomputable def bndL (tab : Tb) (e : Ln) : Option (Int × Int) :=
  (Option.rec (motive := fun _ => Option (Int × Int)) none (fun a_320 => (Option.rec (motive := fun _ => Option (Int × Int)) none (fun b_321 => (some (a_320, b_321))) (ub tab e))) (lb tab e))
theorem bndL_def (tab : Tb) (e : Ln) : bndL tab e = (match lb tab e, ub tab e with
  | some a, some b => some (a, b)
  | _, _ => none) := by
  show (Option.rec (motive := fun _ => Option (Int × Int)) none (fun a_320 => (Option.rec (motive := fun _ => Option (Int × Int)) none (fun b_321 => (some (a_320, b_321))) (ub tab e))) (lb tab e)) = _
  all_goals
    cases hq_1 : (lb tab e) with
    | none =>
      try dsimp only [cond_false, cond_true]
      all_goals rfl
    | some y_322 =>
      try dsimp only [cond_false, cond_true]
      all_goals
        cases hq_2 : (ub tab e) with
        | none =>
          try dsimp only [cond_false, cond_true]
          all_goals rfl
        | some y_323 =>
          try dsimp only [cond_false, cond_true]
          all_goals rfl
theorem bndL_ok {ρ : Nat → Int} {tab : Tb} (h : tOk ρ tab) {e : Ln} {lo hi : Int} (hb : bndL tab e = some (lo, hi)) : lo ≤ ev ρ e ∧ ev ρ e ≤ hi := by
  rw [bndL_def] at hb
  split at hb
  · rename_i a b h1 h2
    cases hb
    exact ⟨lb_ok h h1, ub_ok h h2⟩
  · cases hb
/-- bounds of all elements a .. b, all of which are there -/
noncomputable def sgHull (tab : Tb) : List Sg → Nat → Nat → Option (Int × Int) :=
  fun e_0 e_1 e_2 => List.rec (motive := fun _ => Nat → Nat → Option (Int × Int)) (fun e_1 e_2 => none) (fun h_0 t_0 ih e_1 e_2 => (Sum.rec (motive := fun _ => Option (Int × Int)) (fun e_324 => (Nat.rec (motive := fun _ => Option (Int × Int)) (Nat.rec (motive := fun _ => Option (Int × Int)) (bndL tab e_324) (fun b_327 _ => (joinB (bndL tab e_324) (ih (nat_lit 0) b_327))) e_2) (fun a_326 _ => (Nat.rec (motive := fun _ => Option (Int × Int)) none (fun b_328 _ => (ih a_326 b_328)) e_2)) e_1)) (fun x_325 => (Prod.rec (motive := fun _ => Option (Int × Int)) (fun m_329 x_330 => (Prod.rec (motive := fun _ => Option (Int × Int)) (fun lo_331 hi_332 => (Bool.rec (motive := fun _ => Option (Int × Int)) (ih (Nat.sub e_1 m_329) (Nat.sub e_2 m_329)) (Bool.rec (motive := fun _ => Option (Int × Int)) (joinB (some (lo_331, hi_332)) (ih (nat_lit 0) (Nat.sub e_2 m_329))) (some (lo_331, hi_332)) (Nat.blt e_2 m_329)) (Nat.blt e_1 m_329))) x_330)) x_325)) h_0)) e_0 e_1 e_2
theorem sgHull_def (tab : Tb) (e_0 : List Sg) (e_1 : Nat) (e_2 : Nat) : sgHull tab e_0 e_1 e_2 = (match e_0, e_1, e_2 with
  | [], _, _ => none
  | .inl e :: r, a, b => match a, b with
    | 0, 0 => bndL tab e
    | 0, b + 1 => joinB (bndL tab e) (sgHull tab r 0 b)
    | a + 1, b + 1 => sgHull tab r a b
    | _ + 1, 0 => none
  | .inr (m, lo, hi) :: r, a, b => bif Nat.blt a m then (bif Nat.blt b m then some (lo, hi) else joinB (some (lo, hi)) (sgHull tab r 0 (Nat.sub b m))) else sgHull tab r (Nat.sub a m) (Nat.sub b m)) := by
  cases e_0 with
  | nil =>
    show none = _
    try simp only [iAddQ_eq, iMulQ_eq, iNegQ_eq, lenQ_eq, nthQ_eq, setQ_eq, appQ_eq, mapQ_eq, allQ_eq, anyQ_eq, dropQ_eq, takeQ_eq, revQ_eq, getDQ_eq, optLQ_eq, brecC]
    all_goals rfl
  | cons h_0 t_0 =>
    show (Sum.rec (motive := fun _ => Option (Int × Int)) (fun e_333 => (Nat.rec (motive := fun _ => Option (Int × Int)) (Nat.rec (motive := fun _ => Option (Int × Int)) (bndL tab e_333) (fun b_336 _ => (joinB (bndL tab e_333) (sgHull tab t_0 (nat_lit 0) b_336))) e_2) (fun a_335 _ => (Nat.rec (motive := fun _ => Option (Int × Int)) none (fun b_337 _ => (sgHull tab t_0 a_335 b_337)) e_2)) e_1)) (fun x_334 => (Prod.rec (motive := fun _ => Option (Int × Int)) (fun m_338 x_339 => (Prod.rec (motive := fun _ => Option (Int × Int)) (fun lo_340 hi_341 => (Bool.rec (motive := fun _ => Option (Int × Int)) (sgHull tab t_0 (Nat.sub e_1 m_338) (Nat.sub e_2 m_338)) (Bool.rec (motive := fun _ => Option (Int × Int)) (joinB (some (lo_340, hi_341)) (sgHull tab t_0 (nat_lit 0) (Nat.sub e_2 m_338))) (some (lo_340, hi_341)) (Nat.blt e_2 m_338)) (Nat.blt e_1 m_338))) x_339)) x_334)) h_0) = _
    try simp only [iAddQ_eq, iMulQ_eq, iNegQ_eq, lenQ_eq, nthQ_eq, setQ_eq, appQ_eq, mapQ_eq, allQ_eq, anyQ_eq, dropQ_eq, takeQ_eq, revQ_eq, getDQ_eq, optLQ_eq, brecC]
    all_goals
      cases h_0 with
      | inl y_342 =>
        try dsimp only [cond_false, cond_true]
        all_goals
          cases e_1 with
          | zero =>
            try dsimp only [cond_false, cond_true]
            all_goals
              cases e_2 with
              | zero =>
                try dsimp only [cond_false, cond_true]
                all_goals rfl
              | succ y_343 =>
                try dsimp only [cond_false, cond_true]
                all_goals rfl
          | succ y_344 =>
            try dsimp only [cond_false, cond_true]
            all_goals
              cases e_2 with
              | zero =>
                try dsimp only [cond_false, cond_true]
                all_goals rfl
              | succ y_345 =>
                try dsimp only [cond_false, cond_true]
                all_goals rfl
      | inr y_346 =>
        try dsimp only [cond_false, cond_true]
        all_goals
          cases y_346 with
          | mk y_347 y_348 =>
            try dsimp only [cond_false, cond_true]
            all_goals
              cases y_348 with
              | mk y_349 y_350 =>
                try dsimp only [cond_false, cond_true]
                all_goals
                  cases hq_7 : (Nat.blt e_1 y_347) with
                  | false =>
                    try dsimp only [cond_false, cond_true]
                    all_goals rfl
                  | true =>
                    try dsimp only [cond_false, cond_true]
                    all_goals
                      cases hq_8 : (Nat.blt e_2 y_347) with
                      | false =>
                        try dsimp only [cond_false, cond_true]
                        all_goals rfl
                      | true =>
                        try dsimp only [cond_false, cond_true]
                        all_goals rfl
theorem sgHull_ok {ρ : Nat → Int} {tab : Tb} (ht : tOk ρ tab) {s : List Sg} {l : List Int32} (h : srel ρ s l) {a b : Nat} {lo hi : Int} (ho : sgHull tab s a b = some (lo, hi)) (j : Nat) (h1 : a ≤ j) (h2 : j ≤ b) : ∃ x, l[j]? = some x ∧ lo ≤ x.toInt ∧ x.toInt ≤ hi := by
  induction s generalizing l a b lo hi j with
  | nil => cases ho
  | cons q r ih =>
    match q, h with
    | .inl e, ⟨x, l', e1, e2, h3⟩ =>
      subst e1
      rw [sgHull_def] at ho
      try dsimp only at ho
      split at ho
      · have : j = 0 := by omega
        subst this
        exact ⟨x, rfl, by rw [e2]; exact bndL_ok ht ho⟩
      · rename_i b
        obtain ⟨⟨l1, h1', q1, q2, q3⟩, ⟨l2, h2', q4, q5, q6⟩⟩ := joinB_ok ho
        cases j with
        | zero => have := bndL_ok ht q1; exact ⟨x, rfl, by omega⟩
        | succ j =>
          obtain ⟨y, y1, y2⟩ := ih h3 q4 j (by omega) (by omega)
          exact ⟨y, y1, by omega⟩
      · rename_i a b
        cases j with
        | zero => omega
        | succ j => exact ih h3 ho j (by omega) (by omega)
      · cases ho
    | .inr (m, lo', hi'), ⟨l1, l2, e1, e2, e3, h3⟩ =>
      subst e1
      rw [sgHull_def] at ho
      try dsimp only at ho
      have inl : j < m → ∃ x, (l1 ++ l2)[j]? = some x ∧ lo' ≤ x.toInt ∧ x.toInt ≤ hi' := fun hj => by
        refine ⟨l1[j]'(by omega), ?_, e3 _ (List.getElem_mem _)⟩
        rw [List.getElem?_append_left (by omega), List.getElem?_eq_getElem]
      have inr : ∀ {lo hi : Int}, m ≤ j → (∃ x, l2[j - m]? = some x ∧ lo ≤ x.toInt ∧ x.toInt ≤ hi) → ∃ x, (l1 ++ l2)[j]? = some x ∧ lo ≤ x.toInt ∧ x.toInt ≤ hi := fun hj hx => by
        obtain ⟨x, x1, x2⟩ := hx
        refine ⟨x, ?_, x2⟩
        rw [List.getElem?_append_right (by omega), e2]
        exact x1
      cases h4 : Nat.blt a m with
      | true =>
        rw [h4] at ho
        have h5 := blt_iff.mp h4
        cases h6 : Nat.blt b m with
        | true =>
          rw [h6] at ho
          have h7 := blt_iff.mp h6
          cases ho
          exact inl (by omega)
        | false =>
          rw [h6] at ho
          have h7 := blt_f h6
          simp only [cond_true, cond_false] at ho
          obtain ⟨⟨p1, p2, q1, q2, q3⟩, ⟨p3, p4, q4, q5, q6⟩⟩ := joinB_ok ho
          cases q1
          by_cases hj : j < m
          · obtain ⟨x, x1, x2⟩ := inl hj
            exact ⟨x, x1, by omega⟩
          · obtain ⟨x, x1, x2⟩ := inr (by omega) (ih h3 q4 (j - m) (by omega) (by show j - m ≤ b - m; omega))
            exact ⟨x, x1, by omega⟩
      | false =>
        rw [h4] at ho
        have h5 := blt_f h4
        exact inr (by omega) (ih h3 ho (j - m) (by show a - m ≤ j - m; omega) (by show j - m ≤ b - m; omega))
/-- element k is v from now on -/
noncomputable def sgSet (tab : Tb) (fs : List Ln) (v : Ln) : List Sg → Nat → Option (List Sg) :=
  fun e_0 e_1 => List.rec (motive := fun _ => Nat → Option (List Sg)) (fun e_1 => none) (fun h_0 t_0 ih e_1 => (Sum.rec (motive := fun _ => Option (List Sg)) (fun e_351 => (Nat.rec (motive := fun _ => Option (List Sg)) (some ((.inl v) :: t_0)) (fun k_353 _ => (Option.rec (motive := fun _ => Option (List Sg)) none (fun q_354 => (some ((.inl e_351) :: q_354))) (ih k_353))) e_1)) (fun x_352 => (Prod.rec (motive := fun _ => Option (List Sg)) (fun m_355 x_356 => (Prod.rec (motive := fun _ => Option (List Sg)) (fun lo_357 hi_358 => (Bool.rec (motive := fun _ => Option (List Sg)) (Option.rec (motive := fun _ => Option (List Sg)) none (fun q_359 => (some ((.inr (m_355, lo_357, hi_358)) :: q_359))) (ih (Nat.sub e_1 m_355))) (Bool.rec (motive := fun _ => Option (List Sg)) (some ((.inr (e_1, lo_357, hi_358)) :: ((.inl v) :: ((.inr ((Nat.sub m_355 (Nat.succ e_1)), lo_357, hi_358)) :: t_0)))) (some ((.inr (m_355, lo_357, hi_358)) :: t_0)) (inF tab fs lo_357 hi_358 v)) (Nat.blt e_1 m_355))) x_356)) x_352)) h_0)) e_0 e_1
theorem sgSet_def (tab : Tb) (fs : List Ln) (v : Ln) (e_0 : List Sg) (e_1 : Nat) : sgSet tab fs v e_0 e_1 = (match e_0, e_1 with
  | [], _ => none
  | .inl e :: r, k => match k with
    | 0 => some (.inl v :: r)
    | k + 1 => (match sgSet tab fs v r k with
      | some q => some (.inl e :: q)
      | none => none)
  | .inr (m, lo, hi) :: r, k => bif Nat.blt k m then (bif inF tab fs lo hi v then some (.inr (m, lo, hi) :: r) else some (.inr (k, lo, hi) :: .inl v :: .inr (Nat.sub m (Nat.succ k), lo, hi) :: r)) else (match sgSet tab fs v r (Nat.sub k m) with
    | some q => some (.inr (m, lo, hi) :: q)
    | none => none)) := by
  cases e_0 with
  | nil =>
    show none = _
    try simp only [iAddQ_eq, iMulQ_eq, iNegQ_eq, lenQ_eq, nthQ_eq, setQ_eq, appQ_eq, mapQ_eq, allQ_eq, anyQ_eq, dropQ_eq, takeQ_eq, revQ_eq, getDQ_eq, optLQ_eq, brecC]
    all_goals rfl
  | cons h_0 t_0 =>
    show (Sum.rec (motive := fun _ => Option (List Sg)) (fun e_360 => (Nat.rec (motive := fun _ => Option (List Sg)) (some ((.inl v) :: t_0)) (fun k_362 _ => (Option.rec (motive := fun _ => Option (List Sg)) none (fun q_363 => (some ((.inl e_360) :: q_363))) (sgSet tab fs v t_0 k_362))) e_1)) (fun x_361 => (Prod.rec (motive := fun _ => Option (List Sg)) (fun m_364 x_365 => (Prod.rec (motive := fun _ => Option (List Sg)) (fun lo_366 hi_367 => (Bool.rec (motive := fun _ => Option (List Sg)) (Option.rec (motive := fun _ => Option (List Sg)) none (fun q_368 => (some ((.inr (m_364, lo_366, hi_367)) :: q_368))) (sgSet tab fs v t_0 (Nat.sub e_1 m_364))) (Bool.rec (motive := fun _ => Option (List Sg)) (some ((.inr (e_1, lo_366, hi_367)) :: ((.inl v) :: ((.inr ((Nat.sub m_364 (Nat.succ e_1)), lo_366, hi_367)) :: t_0)))) (some ((.inr (m_364, lo_366, hi_367)) :: t_0)) (inF tab fs lo_366 hi_367 v)) (Nat.blt e_1 m_364))) x_365)) x_361)) h_0) = _
    try simp only [iAddQ_eq, iMulQ_eq, iNegQ_eq, lenQ_eq, nthQ_eq, setQ_eq, appQ_eq, mapQ_eq, allQ_eq, anyQ_eq, dropQ_eq, takeQ_eq, revQ_eq, getDQ_eq, optLQ_eq, brecC]
    all_goals
      cases h_0 with
      | inl y_369 =>
        try dsimp only [cond_false, cond_true]
        all_goals
          cases e_1 with
          | zero =>
            try dsimp only [cond_false, cond_true]
            all_goals rfl
          | succ y_370 =>
            try dsimp only [cond_false, cond_true]
            all_goals
              cases hq_3 : (sgSet tab fs v t_0 y_370) with
              | none =>
                try dsimp only [cond_false, cond_true]
                all_goals rfl
              | some y_371 =>
                try dsimp only [cond_false, cond_true]
                all_goals rfl
      | inr y_372 =>
        try dsimp only [cond_false, cond_true]
        all_goals
          cases y_372 with
          | mk y_373 y_374 =>
            try dsimp only [cond_false, cond_true]
            all_goals
              cases y_374 with
              | mk y_375 y_376 =>
                try dsimp only [cond_false, cond_true]
                all_goals
                  cases hq_6 : (Nat.blt e_1 y_373) with
                  | false =>
                    try dsimp only [cond_false, cond_true]
                    all_goals
                      cases hq_7 : (sgSet tab fs v t_0 ((Nat.sub e_1 y_373))) with
                      | none =>
                        try dsimp only [cond_false, cond_true]
                        all_goals rfl
                      | some y_377 =>
                        try dsimp only [cond_false, cond_true]
                        all_goals rfl
                  | true =>
                    try dsimp only [cond_false, cond_true]
                    all_goals
                      cases hq_8 : (inF tab fs y_375 y_376 v) with
                      | false =>
                        try dsimp only [cond_false, cond_true]
                        all_goals rfl
                      | true =>
                        try dsimp only [cond_false, cond_true]
                        all_goals rfl
theorem set_app_l {l1 l2 : List Int32} {k : Nat} {x : Int32} (h : k < l1.length) : (l1 ++ l2).set k x = l1.set k x ++ l2 := List.set_append_left _ _ h
theorem set_app_r {l1 l2 : List Int32} {k : Nat} {x : Int32} (h : l1.length ≤ k) : (l1 ++ l2).set k x = l1 ++ l2.set (k - l1.length) x := List.set_append_right _ _ h
theorem sgSet_ok {ρ : Nat → Int} {tab : Tb} {fs : List Ln} (ht : tOk ρ tab) (hf : fOk ρ fs) {v : Ln} {x : Int32} (hx : x.toInt = ev ρ v) {s s' : List Sg} {l : List Int32} (h : srel ρ s l) {k : Nat} (ho : sgSet tab fs v s k = some s') : k < l.length ∧ srel ρ s' (l.set k x) := by
  induction s generalizing l k s' with
  | nil => cases ho
  | cons q r ih =>
    match q, h with
    | .inl e, ⟨y, l', e1, e2, h3⟩ =>
      subst e1
      cases k with
      | zero => cases ho; exact ⟨Nat.zero_lt_succ _, x, l', rfl, hx, h3⟩
      | succ k =>
        rw [sgSet_def] at ho
        try dsimp only at ho
        try dsimp only at ho
        cases h4 : sgSet tab fs v r k with
        | none => rw [h4] at ho; cases ho
        | some s2 =>
          rw [h4] at ho
          cases ho
          have h5 := ih h3 h4
          exact ⟨Nat.succ_lt_succ h5.1, y, l'.set k x, rfl, e2, h5.2⟩
    | .inr (m, lo, hi), ⟨l1, l2, e1, e2, e3, h3⟩ =>
      subst e1
      rw [sgSet_def] at ho
      try dsimp only at ho
      cases h4 : Nat.blt k m with
      | true =>
        rw [h4] at ho
        have h5 := blt_iff.mp h4
        refine ⟨by rw [List.length_append]; omega, ?_⟩
        rw [set_app_l (by omega)]
        cases h6 : inF tab fs lo hi v with
        | true =>
          rw [h6] at ho
          cases ho
          have h7 := inF_ok ht hf h6
          refine ⟨l1.set k x, l2, rfl, by rw [List.length_set, e2], fun y hy => ?_, h3⟩
          rcases List.mem_or_eq_of_mem_set hy with q | q
          · exact e3 y q
          · subst q; rw [hx]; exact h7
        | false =>
          rw [h6] at ho
          cases ho
          refine ⟨l1.take k, x :: (l1.drop (k + 1) ++ l2), ?_, by rw [List.length_take]; omega, fun y hy => e3 y (List.mem_of_mem_take hy), x, l1.drop (k + 1) ++ l2, rfl, hx, l1.drop (k + 1), l2, rfl, by rw [List.length_drop, e2]; rfl, fun y hy => e3 y (List.mem_of_mem_drop hy), h3⟩
          rw [List.set_eq_take_append_cons_drop, if_pos (by omega)]
          simp
      | false =>
        rw [h4] at ho
        have h5 := blt_f h4
        cases h6 : sgSet tab fs v r (Nat.sub k m) with
        | none => rw [h6] at ho; cases ho
        | some s2 =>
          rw [h6] at ho
          cases ho
          have h7 := ih h3 h6
          have e4 : Nat.sub k m = k - l1.length := by rw [e2]; rfl
          rw [e4] at h7
          refine ⟨by rw [List.length_append]; omega, ?_⟩
          rw [set_app_r (by omega)]
          exact ⟨l1, _, rfl, e2, e3, h7.2⟩
/-- v may be put at any place a .. b -/
noncomputable def sgFit (tab : Tb) (fs : List Ln) (v : Ln) : List Sg → Nat → Nat → Bool :=
  fun e_0 e_1 e_2 => List.rec (motive := fun _ => Nat → Nat → Bool) (fun e_1 e_2 => false) (fun h_0 t_0 ih e_1 e_2 => (Sum.rec (motive := fun _ => Bool) (fun x_378 => (Nat.rec (motive := fun _ => Bool) false (fun a_380 _ => (Nat.rec (motive := fun _ => Bool) false (fun b_381 _ => (ih a_380 b_381)) e_2)) e_1)) (fun x_379 => (Prod.rec (motive := fun _ => Bool) (fun m_382 x_383 => (Prod.rec (motive := fun _ => Bool) (fun lo_384 hi_385 => (Bool.rec (motive := fun _ => Bool) (ih (Nat.sub e_1 m_382) (Nat.sub e_2 m_382)) (Bool.rec (motive := fun _ => Bool) false (Bool.rec (motive := fun _ => Bool) (ih (nat_lit 0) (Nat.sub e_2 m_382)) true (Nat.blt e_2 m_382)) (inF tab fs lo_384 hi_385 v)) (Nat.blt e_1 m_382))) x_383)) x_379)) h_0)) e_0 e_1 e_2
theorem sgFit_def (tab : Tb) (fs : List Ln) (v : Ln) (e_0 : List Sg) (e_1 : Nat) (e_2 : Nat) : sgFit tab fs v e_0 e_1 e_2 = (match e_0, e_1, e_2 with
  | [], _, _ => false
  | .inl _ :: r, a, b => match a, b with
    | a + 1, b + 1 => sgFit tab fs v r a b
    | _, _ => false
  | .inr (m, lo, hi) :: r, a, b => bif Nat.blt a m then (bif inF tab fs lo hi v then (bif Nat.blt b m then true else sgFit tab fs v r 0 (Nat.sub b m)) else false) else sgFit tab fs v r (Nat.sub a m) (Nat.sub b m)) := by
  cases e_0 with
  | nil =>
    show false = _
    try simp only [iAddQ_eq, iMulQ_eq, iNegQ_eq, lenQ_eq, nthQ_eq, setQ_eq, appQ_eq, mapQ_eq, allQ_eq, anyQ_eq, dropQ_eq, takeQ_eq, revQ_eq, getDQ_eq, optLQ_eq, brecC]
    all_goals rfl
  | cons h_0 t_0 =>
    show (Sum.rec (motive := fun _ => Bool) (fun x_386 => (Nat.rec (motive := fun _ => Bool) false (fun a_388 _ => (Nat.rec (motive := fun _ => Bool) false (fun b_389 _ => (sgFit tab fs v t_0 a_388 b_389)) e_2)) e_1)) (fun x_387 => (Prod.rec (motive := fun _ => Bool) (fun m_390 x_391 => (Prod.rec (motive := fun _ => Bool) (fun lo_392 hi_393 => (Bool.rec (motive := fun _ => Bool) (sgFit tab fs v t_0 (Nat.sub e_1 m_390) (Nat.sub e_2 m_390)) (Bool.rec (motive := fun _ => Bool) false (Bool.rec (motive := fun _ => Bool) (sgFit tab fs v t_0 (nat_lit 0) (Nat.sub e_2 m_390)) true (Nat.blt e_2 m_390)) (inF tab fs lo_392 hi_393 v)) (Nat.blt e_1 m_390))) x_391)) x_387)) h_0) = _
    try simp only [iAddQ_eq, iMulQ_eq, iNegQ_eq, lenQ_eq, nthQ_eq, setQ_eq, appQ_eq, mapQ_eq, allQ_eq, anyQ_eq, dropQ_eq, takeQ_eq, revQ_eq, getDQ_eq, optLQ_eq, brecC]
    all_goals
      cases h_0 with
      | inl y_394 =>
        try dsimp only [cond_false, cond_true]
        all_goals
          cases e_1 with
          | zero =>
            try dsimp only [cond_false, cond_true]
            all_goals rfl
          | succ y_395 =>
            try dsimp only [cond_false, cond_true]
            all_goals
              cases e_2 with
              | zero =>
                try dsimp only [cond_false, cond_true]
                all_goals rfl
              | succ y_396 =>
                try dsimp only [cond_false, cond_true]
                all_goals rfl
      | inr y_397 =>
        try dsimp only [cond_false, cond_true]
        all_goals
          cases y_397 with
          | mk y_398 y_399 =>
            try dsimp only [cond_false, cond_true]
            all_goals
              cases y_399 with
              | mk y_400 y_401 =>
                try dsimp only [cond_false, cond_true]
                all_goals
                  cases hq_6 : (Nat.blt e_1 y_398) with
                  | false =>
                    try dsimp only [cond_false, cond_true]
                    all_goals rfl
                  | true =>
                    try dsimp only [cond_false, cond_true]
                    all_goals
                      cases hq_7 : (inF tab fs y_400 y_401 v) with
                      | false =>
                        try dsimp only [cond_false, cond_true]
                        all_goals rfl
                      | true =>
                        try dsimp only [cond_false, cond_true]
                        all_goals
                          cases hq_8 : (Nat.blt e_2 y_398) with
                          | false =>
                            try dsimp only [cond_false, cond_true]
                            all_goals rfl
                          | true =>
                            try dsimp only [cond_false, cond_true]
                            all_goals rfl
theorem sgFit_ok {ρ : Nat → Int} {tab : Tb} {fs : List Ln} (ht : tOk ρ tab) (hf : fOk ρ fs) {v : Ln} {x : Int32} (hx : x.toInt = ev ρ v) {s : List Sg} {l : List Int32} (h : srel ρ s l) {a b : Nat} (ho : sgFit tab fs v s a b = true) (j : Nat) (h1 : a ≤ j) (h2 : j ≤ b) : j < l.length ∧ srel ρ s (l.set j x) := by
  induction s generalizing l a b j with
  | nil => cases ho
  | cons q r ih =>
    match q, h with
    | .inl e, ⟨y, l', e1, e2, h3⟩ =>
      subst e1
      rw [sgFit_def] at ho
      try dsimp only at ho
      split at ho
      · rename_i a b
        cases j with
        | zero => omega
        | succ j =>
          have h5 := ih h3 ho j (by omega) (by omega)
          exact ⟨Nat.succ_lt_succ h5.1, y, l'.set j x, rfl, e2, h5.2⟩
      · cases ho
    | .inr (m, lo, hi), ⟨l1, l2, e1, e2, e3, h3⟩ =>
      subst e1
      rw [sgFit_def] at ho
      try dsimp only at ho
      have inl : j < m → inF tab fs lo hi v = true → j < (l1 ++ l2).length ∧ srel ρ (.inr (m, lo, hi) :: r) ((l1 ++ l2).set j x) := fun hj hr => by
        refine ⟨by rw [List.length_append]; omega, ?_⟩
        rw [set_app_l (by omega)]
        have h7 := inF_ok ht hf hr
        refine ⟨l1.set j x, l2, rfl, by rw [List.length_set, e2], fun y hy => ?_, h3⟩
        rcases List.mem_or_eq_of_mem_set hy with q | q
        · exact e3 y q
        · subst q; rw [hx]; exact h7
      have inr : m ≤ j → (j - m < l2.length ∧ srel ρ r (l2.set (j - m) x)) → j < (l1 ++ l2).length ∧ srel ρ (.inr (m, lo, hi) :: r) ((l1 ++ l2).set j x) := fun hj hx => by
        refine ⟨by rw [List.length_append]; omega, ?_⟩
        rw [set_app_r (by omega), e2]
        exact ⟨l1, _, rfl, e2, e3, hx.2⟩
      cases h4 : Nat.blt a m with
      | true =>
        rw [h4] at ho
        have h5 := blt_iff.mp h4
        cases h6 : inF tab fs lo hi v with
        | false => rw [h6] at ho; cases ho
        | true =>
          rw [h6] at ho
          by_cases hj : j < m
          · exact inl hj h6
          · cases h8 : Nat.blt b m with
            | true => have h9 := blt_iff.mp h8; omega
            | false =>
              rw [h8] at ho
              exact inr (by omega) (ih h3 ho (j - m) (by omega) (by show j - m ≤ b - m; omega))
      | false =>
        rw [h4] at ho
        have h5 := blt_f h4
        exact inr (by omega) (ih h3 ho (j - m) (by show a - m ≤ j - m; omega) (by show j - m ≤ b - m; omega))
-- cells
abbrev AC : Type := (Nat × List AV) ⊕ (Nat × (List Sg ⊕ (Nat ⊕ List (Option Nat))))
abbrev AH : Type := List AC
abbrev AL : Type := List (Nat × AV)
/-- a whole row as one number: a row of which nothing is known but that it is the same as another -/
noncomputable def encN : List Int32 → Nat
  | [] => 0
  | x :: r => 1 + ((x.toInt + 2147483648).toNat + 4294967296 * encN r)
theorem encN_inj {a b : List Int32} (h : encN a = encN b) : a = b := by
  induction a generalizing b with
  | nil =>
    cases b with
    | nil => rfl
    | cons y q => unfold encN at h; omega
  | cons x r ih =>
    cases b with
    | nil => unfold encN at h; omega
    | cons y q =>
      unfold encN at h
      have hx := in32 x
      have hy := in32 y
      have e1 : lo32 = -2147483648 := rfl
      have e2 : hi32 = 2147483647 := rfl
      have h1 : x.toInt = y.toInt := by omega
      have h2 : encN r = encN q := by omega
      rw [ih h2, Int32.toInt_inj.mp h1]
noncomputable def conR (ρ : Nat → Int) (s : List Sg) (l : List Int32) : Prop := match s with
  | [.inl e] => (encN l : Int) = ev ρ e
  | _ => False
/-- an int array: k below 100 by segments, from 100 on (kind k - 100) as one number -/
noncomputable def arel (ρ : Nat → Int) (k : Nat) (s : List Sg) (c : SC) : Prop :=
  if k < 100 then ∃ l, c = .inr (k, .inl l) ∧ srel ρ s l else ∃ l, c = .inr (k - 100, .inl l) ∧ conR ρ s l
-- long rows: their length; from zB on: all zero
noncomputable def zB : Nat := 1000000000
noncomputable def jLen (m : Nat) : Nat := Nat.mod m zB
theorem zB_pos : 0 < zB := Nat.le_of_ble_eq_true rfl
theorem jLen_lt {m : Nat} (h : Nat.blt m zB = true) : jLen m = m := Nat.mod_eq_of_lt (blt_iff.mp h)
theorem jLen_small (m : Nat) : jLen m < zB := Nat.mod_lt m zB_pos
theorem jLen_add {x : Nat} (h : x < zB) : jLen (Nat.add zB x) = x := by
  have e : jLen (Nat.add zB x) = (zB + x) % zB := rfl
  rw [e, Nat.add_mod_left, Nat.mod_eq_of_lt h]
noncomputable def jOk (m : Nat) (l : List Int64) : Prop := l.length = jLen m ∧ (Nat.blt m zB = false → ∀ x ∈ l, x = 0)
noncomputable def crel (ρ : Nat → Int) (c : SC) (a : AC) : Prop := match a with
  | .inl (ci, as) => ∃ fs, c = .inl (ci, fs) ∧ rel2 (vrel ρ) fs as
  | .inr (k, .inl s) => arel ρ k s c
  | .inr (k, .inr (.inl m)) => ∃ l : List Int64, c = .inr (k, .inr (.inl l)) ∧ jOk m l
  | .inr (k, .inr (.inr q)) => c = .inr (k, .inr (.inr q))
theorem arel_mk {ρ : Nat → Int} {k : Nat} {s : List Sg} {l : List Int32} (hk : k < 100) (h : srel ρ s l) : arel ρ k s (.inr (k, .inl l)) := by
  unfold arel
  rw [if_pos hk]
  exact ⟨l, rfl, h⟩
theorem arel_any {ρ : Nat → Int} {k : Nat} {s : List Sg} {c : SC} (h : arel ρ k s c) : ∃ (k' : Nat) (l : List Int32), c = .inr (k', .inl l) := by
  unfold arel at h
  split at h
  · obtain ⟨l, e, -⟩ := h; exact ⟨_, l, e⟩
  · obtain ⟨l, e, -⟩ := h; exact ⟨_, l, e⟩
noncomputable def lvR (ρ : Nat → Int) (lv : LV) (al : AL) : Prop := ∀ q ∈ al, ∃ v, lvGet lv q.1 = some v ∧ vrel ρ v q.2
noncomputable def catA (a : AV) : Nat :=
  (Sum.rec (motive := fun _ => Nat) (fun x_402 => (Prod.rec (motive := fun _ => Nat) (fun x_404 x_405 => (Bool.rec (motive := fun _ => Nat) (nat_lit 1) (nat_lit 2) x_404)) x_402)) (fun x_403 => (nat_lit 1)) a)
theorem catA_def (a : AV) : catA a = (match a with
  | .inl (true, _) => 2
  | _ => 1) := by
  show (Sum.rec (motive := fun _ => Nat) (fun x_402 => (Prod.rec (motive := fun _ => Nat) (fun x_404 x_405 => (Bool.rec (motive := fun _ => Nat) (nat_lit 1) (nat_lit 2) x_404)) x_402)) (fun x_403 => (nat_lit 1)) a) = _
  try simp only [iAddQ_eq, iMulQ_eq, iNegQ_eq, lenQ_eq, nthQ_eq, setQ_eq, appQ_eq, mapQ_eq, allQ_eq, anyQ_eq, dropQ_eq, takeQ_eq, revQ_eq, getDQ_eq, optLQ_eq, brecC]
  all_goals
    cases a with
    | inl y_406 =>
      try dsimp only [cond_false, cond_true]
      all_goals
        cases y_406 with
        | mk y_407 y_408 =>
          try dsimp only [cond_false, cond_true]
          all_goals
            cases y_407 with
            | false =>
              try dsimp only [cond_false, cond_true]
              all_goals rfl
            | true =>
              try dsimp only [cond_false, cond_true]
              all_goals rfl
    | inr y_409 =>
      try dsimp only [cond_false, cond_true]
      all_goals rfl
theorem catA_ok {ρ : Nat → Int} {v : Value} {a : AV} (h : vrel ρ v a) : v.category = catA a := by
  match a, h with
  | .inl (false, e), ⟨x, e1, _⟩ => subst e1; rfl
  | .inl (true, e), ⟨x, e1, _⟩ => subst e1; rfl
  | .inr (.inl (some i)), e1 => rw [show v = .ref i from e1]; rfl
  | .inr (.inl none), e1 => rw [show v = .null from e1]; rfl
  | .inr (.inr (p, q)), e1 => rw [show v = .int _ from e1]; rfl
noncomputable def okVA (n : Nat) (a : AV) : Bool :=
  (Sum.rec (motive := fun _ => Bool) (fun x_410 => true) (fun x_411 => (Sum.rec (motive := fun _ => Bool) (fun x_412 => (Option.rec (motive := fun _ => Bool) true (fun i_414 => (Bool.rec (motive := fun _ => Bool) (Nat.beq i_414 sIdx) true (Nat.blt i_414 n))) x_412)) (fun x_413 => true) x_411)) a)
theorem okVA_def (n : Nat) (a : AV) : okVA n a = (match a with
  | .inr (.inl (some i)) => bif Nat.blt i n then true else Nat.beq i sIdx
  | _ => true) := by
  show (Sum.rec (motive := fun _ => Bool) (fun x_410 => true) (fun x_411 => (Sum.rec (motive := fun _ => Bool) (fun x_412 => (Option.rec (motive := fun _ => Bool) true (fun i_414 => (Bool.rec (motive := fun _ => Bool) (Nat.beq i_414 sIdx) true (Nat.blt i_414 n))) x_412)) (fun x_413 => true) x_411)) a) = _
  try simp only [iAddQ_eq, iMulQ_eq, iNegQ_eq, lenQ_eq, nthQ_eq, setQ_eq, appQ_eq, mapQ_eq, allQ_eq, anyQ_eq, dropQ_eq, takeQ_eq, revQ_eq, getDQ_eq, optLQ_eq, brecC]
  all_goals
    cases a with
    | inl y_415 =>
      try dsimp only [cond_false, cond_true]
      all_goals rfl
    | inr y_416 =>
      try dsimp only [cond_false, cond_true]
      all_goals
        cases y_416 with
        | inl y_417 =>
          try dsimp only [cond_false, cond_true]
          all_goals
            cases y_417 with
            | none =>
              try dsimp only [cond_false, cond_true]
              all_goals rfl
            | some y_418 =>
              try dsimp only [cond_false, cond_true]
              all_goals
                cases hq_4 : (Nat.blt y_418 n) with
                | false =>
                  try dsimp only [cond_false, cond_true]
                  all_goals rfl
                | true =>
                  try dsimp only [cond_false, cond_true]
                  all_goals rfl
        | inr y_419 =>
          try dsimp only [cond_false, cond_true]
          all_goals rfl
theorem okVA_ok {ρ : Nat → Int} {n : Nat} {v : Value} {a : AV} (h : vrel ρ v a) (ha : okVA n a = true) : okV n v = true := by
  match a, h with
  | .inl (false, e), ⟨x, e1, _⟩ => subst e1; rfl
  | .inl (true, e), ⟨x, e1, _⟩ => subst e1; rfl
  | .inr (.inl (some i)), e1 =>
    rw [show v = .ref i from e1]
    simp only [okV, Bool.or_eq_true, decide_eq_true_eq, beq_iff_eq]
    rw [okVA_def] at ha
    cases h1 : Nat.blt i n with
    | true => exact Or.inl (blt_iff.mp h1)
    | false => simp only [h1] at ha; exact Or.inr (Nat.eq_of_beq_eq_true ha)
  | .inr (.inl none), e1 => rw [show v = .null from e1]; rfl
  | .inr (.inr (p, q)), e1 => rw [show v = .int _ from e1]; rfl
noncomputable def alGet (k : Nat) : AL → Option AV :=
  fun e_0 => List.rec (motive := fun _ => Option AV) none (fun h_0 t_0 ih => (Prod.rec (motive := fun _ => Option AV) (fun j_420 a_421 => (Bool.rec (motive := fun _ => Option AV) (ih) (some a_421) (Nat.beq k j_420))) h_0)) e_0 
theorem alGet_def (k : Nat) (e_0 : AL) : alGet k e_0 = (match e_0 with
  | [] => none
  | (j, a) :: r => bif Nat.beq k j then some a else alGet k r) := by
  cases e_0 with
  | nil =>
    show none = _
    try simp only [iAddQ_eq, iMulQ_eq, iNegQ_eq, lenQ_eq, nthQ_eq, setQ_eq, appQ_eq, mapQ_eq, allQ_eq, anyQ_eq, dropQ_eq, takeQ_eq, revQ_eq, getDQ_eq, optLQ_eq, brecC]
    all_goals rfl
  | cons h_0 t_0 =>
    show (Prod.rec (motive := fun _ => Option AV) (fun j_422 a_423 => (Bool.rec (motive := fun _ => Option AV) (alGet k t_0) (some a_423) (Nat.beq k j_422))) h_0) = _
    try simp only [iAddQ_eq, iMulQ_eq, iNegQ_eq, lenQ_eq, nthQ_eq, setQ_eq, appQ_eq, mapQ_eq, allQ_eq, anyQ_eq, dropQ_eq, takeQ_eq, revQ_eq, getDQ_eq, optLQ_eq, brecC]
    all_goals
      cases h_0 with
      | mk y_424 y_425 =>
        try dsimp only [cond_false, cond_true]
        all_goals
          cases hq_2 : (Nat.beq k y_424) with
          | false =>
            try dsimp only [cond_false, cond_true]
            all_goals rfl
          | true =>
            try dsimp only [cond_false, cond_true]
            all_goals rfl
theorem alGet_mem {k : Nat} {al : AL} {a : AV} (h : alGet k al = some a) : (k, a) ∈ al := by
  induction al with
  | nil => cases h
  | cons q r ih =>
    obtain ⟨j, b⟩ := q
    rw [alGet_def] at h
    try dsimp only at h
    cases h1 : Nat.beq k j with
    | true => rw [h1] at h; cases h; rw [Nat.eq_of_beq_eq_true h1]; exact List.mem_cons_self
    | false => rw [h1] at h; exact List.mem_cons_of_mem _ (ih h)
theorem lvR_get {ρ : Nat → Int} {lv : LV} {al : AL} (h : lvR ρ lv al) {k : Nat} {a : AV} (hg : alGet k al = some a) : ∃ v, lvGet lv k = some v ∧ vrel ρ v a := h (k, a) (alGet_mem hg)
/-- the locals k (and k + 1, and a long that reaches into k) go -/
noncomputable def alDel (two : Bool) (k : Nat) : AL → AL :=
  fun e_0 => List.rec (motive := fun _ => AL) [] (fun h_0 t_0 ih => (Prod.rec (motive := fun _ => AL) (fun j_426 a_427 => (Bool.rec (motive := fun _ => AL) (Bool.rec (motive := fun _ => AL) (Bool.rec (motive := fun _ => AL) ((j_426, a_427) :: (ih)) (ih) (Bool.rec (motive := fun _ => Bool) false (Nat.beq (catA a_427) (nat_lit 2)) (Nat.beq (Nat.succ j_426) k))) (ih) (Bool.rec (motive := fun _ => Bool) false (Nat.beq j_426 (Nat.succ k)) two)) (ih) (Nat.beq j_426 k))) h_0)) e_0 
theorem alDel_def (two : Bool) (k : Nat) (e_0 : AL) : alDel two k e_0 = (match e_0 with
  | [] => []
  | (j, a) :: r => bif Nat.beq j k then alDel two k r else bif (bif two then Nat.beq j (Nat.succ k) else false) then alDel two k r else bif (bif Nat.beq (Nat.succ j) k then Nat.beq (catA a) 2 else false) then alDel two k r else (j, a) :: alDel two k r) := by
  cases e_0 with
  | nil =>
    show [] = _
    try simp only [iAddQ_eq, iMulQ_eq, iNegQ_eq, lenQ_eq, nthQ_eq, setQ_eq, appQ_eq, mapQ_eq, allQ_eq, anyQ_eq, dropQ_eq, takeQ_eq, revQ_eq, getDQ_eq, optLQ_eq, brecC]
    all_goals rfl
  | cons h_0 t_0 =>
    show (Prod.rec (motive := fun _ => AL) (fun j_428 a_429 => (Bool.rec (motive := fun _ => AL) (Bool.rec (motive := fun _ => AL) (Bool.rec (motive := fun _ => AL) ((j_428, a_429) :: (alDel two k t_0)) (alDel two k t_0) (Bool.rec (motive := fun _ => Bool) false (Nat.beq (catA a_429) (nat_lit 2)) (Nat.beq (Nat.succ j_428) k))) (alDel two k t_0) (Bool.rec (motive := fun _ => Bool) false (Nat.beq j_428 (Nat.succ k)) two)) (alDel two k t_0) (Nat.beq j_428 k))) h_0) = _
    try simp only [iAddQ_eq, iMulQ_eq, iNegQ_eq, lenQ_eq, nthQ_eq, setQ_eq, appQ_eq, mapQ_eq, allQ_eq, anyQ_eq, dropQ_eq, takeQ_eq, revQ_eq, getDQ_eq, optLQ_eq, brecC]
    all_goals
      cases h_0 with
      | mk y_430 y_431 =>
        try dsimp only [cond_false, cond_true]
        all_goals
          cases hq_2 : (Nat.beq y_430 k) with
          | false =>
            try dsimp only [cond_false, cond_true]
            all_goals
              cases hq_3 : ((bif two then (Nat.beq y_430 ((Nat.succ k))) else false)) with
              | false =>
                try dsimp only [cond_false, cond_true]
                all_goals
                  cases hq_4 : ((bif (Nat.beq ((Nat.succ y_430)) k) then (Nat.beq ((catA y_431)) 2) else false)) with
                  | false =>
                    try dsimp only [cond_false, cond_true]
                    all_goals rfl
                  | true =>
                    try dsimp only [cond_false, cond_true]
                    all_goals rfl
              | true =>
                try dsimp only [cond_false, cond_true]
                all_goals rfl
          | true =>
            try dsimp only [cond_false, cond_true]
            all_goals rfl
theorem lvGet_nil (j : Nat) : lvGet [] j = none := rfl
theorem lvGet_cons (p : Nat × Value) (lv : LV) (j : Nat) : lvGet (p :: lv) j = if p.1 = j then some p.2 else lvGet lv j := by
  unfold lvGet
  rw [List.find?_cons]
  by_cases h : p.1 = j
  · have : (p.1 == j) = true := by simpa using h
    rw [this, if_pos h]
    rfl
  · have : (p.1 == j) = false := by simpa using h
    rw [this, if_neg h]
theorem lvGet_filter {f : Nat × Value → Bool} {lv : LV} {j : Nat} {v : Value} (h : lvGet lv j = some v) (hf : f (j, v) = true) : lvGet (lv.filter f) j = some v := by
  induction lv with
  | nil => cases h
  | cons p lv ih =>
    rw [lvGet_cons] at h
    by_cases hp : p.1 = j
    · rw [if_pos hp] at h
      cases h
      have e : p = (j, p.2) := by rw [← hp]
      rw [List.filter_cons, if_pos (by rw [e]; exact hf), lvGet_cons, if_pos hp]
    · rw [if_neg hp] at h
      rw [List.filter_cons]
      split
      · rw [lvGet_cons, if_neg hp]; exact ih h
      · exact ih h
theorem lvR_set1 {ρ : Nat → Int} {lv : LV} {al : AL} (h : lvR ρ lv al) {k : Nat} {v : Value} {a : AV} (hv : vrel ρ v a) : lvR ρ (lvSet1 lv k v) ((k, a) :: alDel false k al) := by
  have key : ∀ al : AL, lvR ρ lv al → ∀ q ∈ alDel false k al, ∃ w, lvGet (lvSet1 lv k v) q.1 = some w ∧ vrel ρ w q.2 := by
    intro al
    induction al with
    | nil => intro _ q hq; cases hq
    | cons p r ih =>
      obtain ⟨j, b⟩ := p
      intro hr
      have hr2 := ih (fun q hq => hr q (List.mem_cons_of_mem _ hq))
      intro q hq
      rw [alDel_def] at hq
      try dsimp only at hq
      cases h1 : Nat.beq j k with
      | true => rw [h1] at hq; exact hr2 q hq
      | false =>
        simp only [h1, cond_false] at hq
        cases h2 : (bif Nat.beq (Nat.succ j) k then Nat.beq (catA b) 2 else false) with
        | true => rw [h2] at hq; exact hr2 q hq
        | false =>
          rw [h2] at hq
          rcases List.mem_cons.mp hq with rfl | hq
          · obtain ⟨w, w1, w2⟩ := hr (j, b) List.mem_cons_self
            refine ⟨w, ?_, w2⟩
            try dsimp only at w1 w2 ⊢
            have hjk : ¬ j = k := fun q => by rw [q, Nat.beq_refl] at h1; cases h1
            unfold lvSet1
            rw [lvGet_cons, if_neg (fun q : k = j => hjk q.symm)]
            refine lvGet_filter w1 ?_
            have hc := catA_ok w2
            have h3 : (j == k) = false := by simpa using hjk
            simp only [h3, Bool.not_false, Bool.true_and]
            by_cases h4 : j + 1 = k
            · have h5 : Nat.beq (Nat.succ j) k = true := Nat.beq_eq.mpr h4
              rw [h5] at h2
              have h6 : ¬ catA b = 2 := fun q => by rw [q] at h2; cases h2
              rw [← hc] at h6
              have h7 : (w.category == 2) = false := by simpa using h6
              rw [h7, Bool.and_false]
              rfl
            · have h7 : (j + 1 == k) = false := by simpa using h4
              rw [h7]
              rfl
          · exact hr2 q hq
  intro q hq
  rcases List.mem_cons.mp hq with rfl | hq
  · refine ⟨v, ?_, hv⟩
    unfold lvSet1
    rw [lvGet_cons, if_pos rfl]
  · exact key al h q hq
theorem lvR_set2 {ρ : Nat → Int} {lv : LV} {al : AL} (h : lvR ρ lv al) {k : Nat} {v : Value} {a : AV} (hv : vrel ρ v a) : lvR ρ (lvSet2 lv k v) ((k, a) :: alDel true k al) := by
  have key : ∀ al : AL, lvR ρ lv al → ∀ q ∈ alDel true k al, ∃ w, lvGet (lvSet2 lv k v) q.1 = some w ∧ vrel ρ w q.2 := by
    intro al
    induction al with
    | nil => intro _ q hq; cases hq
    | cons p r ih =>
      obtain ⟨j, b⟩ := p
      intro hr
      have hr2 := ih (fun q hq => hr q (List.mem_cons_of_mem _ hq))
      intro q hq
      rw [alDel_def] at hq
      try dsimp only at hq
      cases h1 : Nat.beq j k with
      | true => rw [h1] at hq; exact hr2 q hq
      | false =>
        simp only [h1, cond_false, cond_true] at hq
        cases h1' : Nat.beq j (Nat.succ k) with
        | true => rw [h1'] at hq; exact hr2 q hq
        | false =>
          rw [h1'] at hq
          simp only [cond_false] at hq
          cases h2 : (bif Nat.beq (Nat.succ j) k then Nat.beq (catA b) 2 else false) with
          | true => rw [h2] at hq; exact hr2 q hq
          | false =>
            rw [h2] at hq
            rcases List.mem_cons.mp hq with rfl | hq
            · obtain ⟨w, w1, w2⟩ := hr (j, b) List.mem_cons_self
              refine ⟨w, ?_, w2⟩
              try dsimp only at w1 w2 ⊢
              have hjk : ¬ j = k := fun q => by rw [q, Nat.beq_refl] at h1; cases h1
              have hjk' : ¬ j = k + 1 := fun q => by rw [q] at h1'; simp at h1'
              unfold lvSet2
              rw [lvGet_cons, if_neg (fun q : k = j => hjk q.symm)]
              refine lvGet_filter w1 ?_
              have hc := catA_ok w2
              have h3 : (j == k) = false := by simpa using hjk
              have h3' : (j == k + 1) = false := by simpa using hjk'
              simp only [h3, h3', Bool.not_false, Bool.true_and]
              by_cases h4 : j + 1 = k
              · have h5 : Nat.beq (Nat.succ j) k = true := Nat.beq_eq.mpr h4
                rw [h5] at h2
                have h6 : ¬ catA b = 2 := fun q => by rw [q] at h2; cases h2
                rw [← hc] at h6
                have h7 : (w.category == 2) = false := by simpa using h6
                rw [h7, Bool.and_false]
                rfl
              · have h7 : (j + 1 == k) = false := by simpa using h4
                rw [h7]
                rfl
            · exact hr2 q hq
  intro q hq
  rcases List.mem_cons.mp hq with rfl | hq
  · refine ⟨v, ?_, hv⟩
    unfold lvSet2
    rw [lvGet_cons, if_pos rfl]
  · exact key al h q hq
noncomputable def lvOk (n : Nat) (lv : LV) : Prop := ∀ q ∈ lv, okV n q.2 = true
theorem lvOk_set1 {n : Nat} {lv : LV} (h : lvOk n lv) {k : Nat} {v : Value} (hv : okV n v = true) : lvOk n (lvSet1 lv k v) := fun q hq => (List.mem_cons.mp hq).elim (fun e => e ▸ hv) (fun hq => h q (List.mem_filter.mp hq).1)
theorem lvOk_set2 {n : Nat} {lv : LV} (h : lvOk n lv) {k : Nat} {v : Value} (hv : okV n v = true) : lvOk n (lvSet2 lv k v) := fun q hq => (List.mem_cons.mp hq).elim (fun e => e ▸ hv) (fun hq => h q (List.mem_filter.mp hq).1)
theorem okV_le {n m : Nat} (h : n ≤ m) {v : Value} (hv : okV n v = true) : okV m v = true := by
  cases v with
  | ref i =>
    simp only [okV, Bool.or_eq_true, decide_eq_true_eq, beq_iff_eq] at hv ⊢
    rcases hv with q | q
    · exact Or.inl (Nat.lt_of_lt_of_le q h)
    · exact Or.inr q
  | _ => rfl
theorem lvOk_le {n m : Nat} (hn : n ≤ m) {lv : LV} (h : lvOk n lv) : lvOk m lv := fun q hq => okV_le hn (h q hq)
