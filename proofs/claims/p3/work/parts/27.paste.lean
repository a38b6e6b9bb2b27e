/-! ===== the cells of a call cut out, and put back ===== -/
theorem rel2_of {α β : Type} {R : α → β → Prop} {l : List α} {r : List β} (hl : l.length = r.length) (h : ∀ (i : Nat) (a : α) (b : β), l[i]? = some a → r[i]? = some b → R a b) : rel2 R l r := by
  induction r generalizing l with
  | nil =>
    cases l with
    | nil => exact trivial
    | cons a l => cases hl
  | cons b r ih =>
    cases l with
    | nil => cases hl
    | cons a l => exact ⟨h 0 a b rfl rfl, ih (Nat.succ.inj hl) (fun i a b h1 h2 => h (i + 1) a b h1 h2)⟩
noncomputable def aSubH (A : AH) (I : List Nat) : AH :=
  (mapQ (fun i => (mpC (fun j => (ixA j I)) (getDQ A i (.inl ((nat_lit 0), []))))) I)
theorem aSubH_def (A : AH) (I : List Nat) : aSubH A I = I.map (fun i => mpC (fun j => ixA j I) (A.getD i (.inl (0, [])))) := by
  show (mapQ (fun i => (mpC (fun j => (ixA j I)) (getDQ A i (.inl ((nat_lit 0), []))))) I) = _
  try simp only [iAddQ_eq, iMulQ_eq, iNegQ_eq, lenQ_eq, nthQ_eq, setQ_eq, appQ_eq, mapQ_eq, allQ_eq, anyQ_eq, dropQ_eq, takeQ_eq, revQ_eq, getDQ_eq, optLQ_eq, brecC]
  all_goals rfl
noncomputable def pasteGo_a0 :=
  fun (I : List Nat) (n : Nat) (H1 : AH) (e_0 : Nat) (h_0 : AC) => (mpC (urA I n) (getDQ H1 (ixA e_0 I) h_0))
noncomputable def pasteGo_a1 :=
  fun (h_0 : AC) (I : List Nat) (n : Nat) (H1 : AH) (e_0 : Nat) (ih : Nat → AH) => (((Bool.rec (motive := fun _ => _) h_0 (pasteGo_a0 I n H1 e_0 h_0) (memN e_0 I)) :: (ih (Nat.succ e_0))) : AH)
noncomputable def pasteGo (I : List Nat) (n : Nat) (H1 : AH) : Nat → AH → AH :=
  fun e_0 e_1 => List.rec (motive := fun _ => Nat → AH) (fun e_0 => []) (fun h_0 t_0 ih e_0 => (pasteGo_a1 h_0 I n H1 e_0 ih)) e_1 e_0
theorem pasteGo_def (I : List Nat) (n : Nat) (H1 : AH) (e_0 : Nat) (e_1 : AH) : pasteGo I n H1 e_0 e_1 = (match e_0, e_1 with
  | _, [] => []
  | i, c :: r => (bif memN i I then mpC (urA I n) (H1.getD (ixA i I) c) else c) :: pasteGo I n H1 (Nat.succ i) r) := by
  cases e_1 with
  | nil =>
    show [] = _
    try simp only [iAddQ_eq, iMulQ_eq, iNegQ_eq, lenQ_eq, nthQ_eq, setQ_eq, appQ_eq, mapQ_eq, allQ_eq, anyQ_eq, dropQ_eq, takeQ_eq, revQ_eq, getDQ_eq, optLQ_eq, brecC]
    all_goals rfl
  | cons h_0 t_0 =>
    show ((Bool.rec (motive := fun _ => _) h_0 (mpC (urA I n) (getDQ H1 (ixA e_0 I) h_0)) (memN e_0 I)) :: (pasteGo I n H1 (Nat.succ e_0) t_0)) = _
    try simp only [iAddQ_eq, iMulQ_eq, iNegQ_eq, lenQ_eq, nthQ_eq, setQ_eq, appQ_eq, mapQ_eq, allQ_eq, anyQ_eq, dropQ_eq, takeQ_eq, revQ_eq, getDQ_eq, optLQ_eq, brecC]
    all_goals rfl
noncomputable def aPaste (A : AH) (I : List Nat) (H1 : AH) : AH :=
  (appQ (pasteGo I (lenQ A) H1 (nat_lit 0) A) (mapQ (mpC (urA I (lenQ A))) (dropQ (lenQ I) H1)))
theorem aPaste_def (A : AH) (I : List Nat) (H1 : AH) : aPaste A I H1 = pasteGo I A.length H1 0 A ++ (H1.drop I.length).map (mpC (urA I A.length)) := by
  show (appQ (pasteGo I (lenQ A) H1 (nat_lit 0) A) (mapQ (mpC (urA I (lenQ A))) (dropQ (lenQ I) H1))) = _
  try simp only [iAddQ_eq, iMulQ_eq, iNegQ_eq, lenQ_eq, nthQ_eq, setQ_eq, appQ_eq, mapQ_eq, allQ_eq, anyQ_eq, dropQ_eq, takeQ_eq, revQ_eq, getDQ_eq, optLQ_eq, brecC]
  all_goals rfl
section PASTE
variable {ρ : Nat → Int} {σ : SH} {A : AH} {I : List Nat}
theorem ixA_get {i : Nat} {I : List Nat} (h : i ∈ I) : I[ixA i I]? = some i ∧ ixA i I < I.length := by
  induction I with
  | nil => cases h
  | cons a l ih =>
    rw [ixA_def]
    try dsimp only
    cases h1 : Nat.beq a i with
    | true => rw [Nat.eq_of_beq_eq_true h1]; exact ⟨rfl, Nat.zero_lt_succ _⟩
    | false =>
      have hne : ¬ i = a := fun e => by rw [e, Nat.beq_refl] at h1; cases h1
      have h2 := ih ((List.mem_cons.mp h).resolve_left hne)
      exact ⟨h2.1, Nat.succ_lt_succ h2.2⟩
theorem aSubH_ok (hA : rel2 (crel ρ) σ A) (hI : ∀ i ∈ I, i < σ.length) : rel2 (crel ρ) (subH σ I) (aSubH A I) := by
  have len := rel2_len hA
  refine rel2_of (by simp [subH, aSubH_def]) fun k a b h1 h2 => ?_
  unfold subH at h1
  rw [aSubH_def] at h2
  rw [List.getElem?_map] at h1 h2
  cases hk : I[k]? with
  | none => rw [hk] at h1; cases h1
  | some i =>
    rw [hk] at h1 h2
    cases h1
    cases h2
    have hi := hI i (List.mem_of_getElem? hk)
    have e1 : σ[i]? = some σ[i] := List.getElem?_eq_getElem hi
    obtain ⟨b, b1, b2⟩ := rel2_get' hA e1
    try dsimp only
    rw [List.getD_eq_getElem?_getD, List.getD_eq_getElem?_getD, e1, b1]
    exact rnC_ok b2
theorem urC_ok {n : Nat} {c : SC} {a : AC} (h : crel ρ c a) : crel ρ (urC I n c) (mpC (urA I n) a) := by
  match a, h with
  | .inl (ci, as), ⟨fs, e, h'⟩ => rw [mpC_def]; subst e; exact ⟨_, rfl, rel2_map (fun _ _ q => urV_ok q) h'⟩
  | .inr (k, .inl s), h => obtain ⟨k', l, e⟩ := arel_any h; subst e; exact h
  | .inr (k, .inr (.inl m)), ⟨l, e, h'⟩ => subst e; exact ⟨_, rfl, h'⟩
  | .inr (k, .inr (.inr q)), e =>
    rw [show c = .inr (k, .inr (.inr q)) from e]
    rw [mpC_def]
    show (Sum.inr (k, .inr (.inr (q.map (Option.map (urN I n))))) : SC) = .inr (k, .inr (.inr (q.map (Option.map (urA I n)))))
    rw [show urN I n = urA I n from funext fun j => urA_eq I n j]
theorem pasteGo_get (I : List Nat) (n : Nat) (H1 : AH) (A : AH) : ∀ (k i : Nat), (pasteGo I n H1 k A)[i]? = (A[i]?).map (fun c => bif memN (k + i) I then mpC (urA I n) (H1.getD (ixA (k + i) I) c) else c) := by
  induction A with
  | nil => intro k i; rfl
  | cons c r ih =>
    intro k i
    rw [pasteGo_def]
    try dsimp only
    cases i with
    | zero => rfl
    | succ i =>
      rw [List.getElem?_cons_succ, List.getElem?_cons_succ, ih]
      rw [show Nat.succ k + i = k + (i + 1) by omega]
theorem pasteGo_len (I : List Nat) (n : Nat) (H1 : AH) (A : AH) : ∀ k : Nat, (pasteGo I n H1 k A).length = A.length := by
  induction A with
  | nil => intro k; rfl
  | cons c r ih =>
    intro k
    rw [pasteGo_def]
    try dsimp only
    rw [List.length_cons, List.length_cons, ih]
theorem aPaste_ok {h1 : SH} {H1 : AH} (hA : rel2 (crel ρ) σ A) (hH : rel2 (crel ρ) h1 H1) (hI : I.length ≤ h1.length) : rel2 (crel ρ) (paste σ I h1) (aPaste A I H1) := by
  have len := rel2_len hA
  have len1 := rel2_len hH
  rw [aPaste_def]
  unfold paste
  refine rel2_app (rel2_of (by rw [List.length_mapIdx, pasteGo_len, len]) fun i a b q1 q2 => ?_) ?_
  · rw [List.getElem?_mapIdx] at q1
    rw [pasteGo_get, Nat.zero_add] at q2
    cases hc : σ[i]? with
    | none => rw [hc] at q1; cases q1
    | some c =>
      obtain ⟨d, d1, d2⟩ := rel2_get' hA hc
      rw [hc] at q1
      rw [d1] at q2
      cases q1
      cases q2
      try dsimp only
      cases hm : memN i I with
      | false => rw [if_neg (fun q => by rw [memN_iff.mpr q] at hm; cases hm)]; exact d2
      | true =>
        have hi := memN_iff.mp hm
        rw [if_pos hi, cond_true, ixA_eq]
        have hk := (ixA_get hi).2
        have e1 : h1[ixA i I]? = some (h1[ixA i I]'(by omega)) := List.getElem?_eq_getElem _
        obtain ⟨b, b1, b2⟩ := rel2_get' hH e1
        rw [List.getD_eq_getElem?_getD, List.getD_eq_getElem?_getD, e1, b1, ← len]
        exact urC_ok b2
  · rw [← len]
    exact rel2_map (fun _ _ q => urC_ok q) (rel2_drop hH _)
-- what is said of groups of cells
theorem arr_rn (I : List Nat) (c : SC) : arrI (rnC I c) = arrI c := by
  match c with
  | .inl q => rfl
  | .inr (k, .inl l) => rfl
  | .inr (k, .inr (.inl l)) => rfl
  | .inr (k, .inr (.inr l)) => rfl
theorem arr_ur (I : List Nat) (n : Nat) (c : SC) : arrI (urC I n c) = arrI c := by
  match c with
  | .inl q => rfl
  | .inr (k, .inl l) => rfl
  | .inr (k, .inr (.inl l)) => rfl
  | .inr (k, .inr (.inr l)) => rfl
noncomputable def allIn_a0 :=
  fun (ih : List Nat → Bool) (e_1 : List Nat) (h_0 : Nat) => ((Bool.rec (motive := fun _ => Bool) false (ih e_1) (memN h_0 e_1)) : Bool)
noncomputable def allIn  : List Nat → List Nat → Bool :=
  fun e_0 e_1 => List.rec (motive := fun _ => List Nat → Bool) (fun e_1 => true) (fun h_0 t_0 ih e_1 => (allIn_a0 ih e_1 h_0)) e_0 e_1
theorem allIn_def  (e_0 : List Nat) (e_1 : List Nat) : allIn  e_0 e_1 = (match e_0, e_1 with
  | [], _ => true
  | a :: r, I => bif memN a I then allIn r I else false) := by
  cases e_0 with
  | nil =>
    show true = _
    try simp only [iAddQ_eq, iMulQ_eq, iNegQ_eq, lenQ_eq, nthQ_eq, setQ_eq, appQ_eq, mapQ_eq, allQ_eq, anyQ_eq, dropQ_eq, takeQ_eq, revQ_eq, getDQ_eq, optLQ_eq, brecC]
    all_goals rfl
  | cons h_0 t_0 =>
    show (Bool.rec (motive := fun _ => Bool) false (allIn t_0 e_1) (memN h_0 e_1)) = _
    try simp only [iAddQ_eq, iMulQ_eq, iNegQ_eq, lenQ_eq, nthQ_eq, setQ_eq, appQ_eq, mapQ_eq, allQ_eq, anyQ_eq, dropQ_eq, takeQ_eq, revQ_eq, getDQ_eq, optLQ_eq, brecC]
    all_goals
      cases hq_1 : (memN h_0 e_1) with
      | false =>
        try dsimp only [cond_false, cond_true]
        all_goals rfl
      | true =>
        try dsimp only [cond_false, cond_true]
        all_goals rfl
noncomputable def noneIn_a0 :=
  fun (ih : List Nat → Nat → Bool) (e_1 : List Nat) (e_2 : Nat) (h_0 : Nat) => ((Bool.rec (motive := fun _ => Bool) false (ih e_1 e_2) (Nat.blt h_0 e_2)) : Bool)
noncomputable def noneIn_a1 :=
  fun (ih : List Nat → Nat → Bool) (e_1 : List Nat) (e_2 : Nat) (h_0 : Nat) => ((Bool.rec (motive := fun _ => Bool) (noneIn_a0 ih e_1 e_2 h_0) false (memN h_0 e_1)) : Bool)
noncomputable def noneIn  : List Nat → List Nat → Nat → Bool :=
  fun e_0 e_1 e_2 => List.rec (motive := fun _ => List Nat → Nat → Bool) (fun e_1 e_2 => true) (fun h_0 t_0 ih e_1 e_2 => (noneIn_a1 ih e_1 e_2 h_0)) e_0 e_1 e_2
theorem noneIn_def  (e_0 : List Nat) (e_1 : List Nat) (e_2 : Nat) : noneIn  e_0 e_1 e_2 = (match e_0, e_1, e_2 with
  | [], _, _ => true
  | a :: r, I, n => bif memN a I then false else bif Nat.blt a n then noneIn r I n else false) := by
  cases e_0 with
  | nil =>
    show true = _
    try simp only [iAddQ_eq, iMulQ_eq, iNegQ_eq, lenQ_eq, nthQ_eq, setQ_eq, appQ_eq, mapQ_eq, allQ_eq, anyQ_eq, dropQ_eq, takeQ_eq, revQ_eq, getDQ_eq, optLQ_eq, brecC]
    all_goals rfl
  | cons h_0 t_0 =>
    show (Bool.rec (motive := fun _ => Bool) (Bool.rec (motive := fun _ => Bool) false (noneIn t_0 e_1 e_2) (Nat.blt h_0 e_2)) false (memN h_0 e_1)) = _
    try simp only [iAddQ_eq, iMulQ_eq, iNegQ_eq, lenQ_eq, nthQ_eq, setQ_eq, appQ_eq, mapQ_eq, allQ_eq, anyQ_eq, dropQ_eq, takeQ_eq, revQ_eq, getDQ_eq, optLQ_eq, brecC]
    all_goals
      cases hq_1 : (memN h_0 e_1) with
      | false =>
        try dsimp only [cond_false, cond_true]
        all_goals
          cases hq_2 : (Nat.blt h_0 e_2) with
          | false =>
            try dsimp only [cond_false, cond_true]
            all_goals rfl
          | true =>
            try dsimp only [cond_false, cond_true]
            all_goals rfl
      | true =>
        try dsimp only [cond_false, cond_true]
        all_goals rfl
theorem allIn_ok {l I : List Nat} (h : allIn l I = true) : ∀ a ∈ l, a ∈ I := by
  induction l with
  | nil => intro a ha; cases ha
  | cons b r ih =>
    rw [allIn_def] at h
    try dsimp only at h
    cases hm : memN b I with
    | false => rw [hm] at h; cases h
    | true =>
      rw [hm] at h
      intro a ha
      rcases List.mem_cons.mp ha with rfl | ha
      · exact memN_iff.mp hm
      · exact ih h a ha
theorem noneIn_ok {l I : List Nat} {n : Nat} (h : noneIn l I n = true) : ∀ a ∈ l, a ∉ I ∧ a < n := by
  induction l with
  | nil => intro a ha; cases ha
  | cons b r ih =>
    rw [noneIn_def] at h
    try dsimp only at h
    cases hm : memN b I with
    | true => rw [hm] at h; cases h
    | false =>
      rw [hm] at h
      simp only [cond_false] at h
      cases hb : Nat.blt b n with
      | false => rw [hb] at h; cases h
      | true =>
        rw [hb] at h
        intro a ha
        rcases List.mem_cons.mp ha with rfl | ha
        · exact ⟨fun q => (by rw [memN_iff.mpr q] at hm; cases hm), blt_iff.mp hb⟩
        · exact ih h a ha
noncomputable def prIn_a0 :=
  fun (h_0 : PD) (I : List Nat) (ih : List PD) => (((h_0.1, (mapQ (fun j => (ixA j I)) h_0.2.1), h_0.2.2) :: (ih)) : List PD)
noncomputable def prIn_a1 :=
  fun (ih : List PD) (h_0 : PD) (I : List Nat) => ((Bool.rec (motive := fun _ => List PD) (ih) (prIn_a0 h_0 I ih) (allIn h_0.2.1 I)) : List PD)
noncomputable def prIn (I : List Nat) : List PD → List PD :=
  fun e_0 => List.rec (motive := fun _ => List PD) [] (fun h_0 t_0 ih => (prIn_a1 ih h_0 I)) e_0 
theorem prIn_def (I : List Nat) (e_0 : List PD) : prIn I e_0 = (match e_0 with
  | [] => []
  | p :: r => bif allIn p.2.1 I then (p.1, p.2.1.map (fun j => ixA j I), p.2.2) :: prIn I r else prIn I r) := by
  cases e_0 with
  | nil =>
    show [] = _
    try simp only [iAddQ_eq, iMulQ_eq, iNegQ_eq, lenQ_eq, nthQ_eq, setQ_eq, appQ_eq, mapQ_eq, allQ_eq, anyQ_eq, dropQ_eq, takeQ_eq, revQ_eq, getDQ_eq, optLQ_eq, brecC]
    all_goals rfl
  | cons h_0 t_0 =>
    show (Bool.rec (motive := fun _ => List PD) (prIn I t_0) ((h_0.1, (mapQ (fun j => (ixA j I)) h_0.2.1), h_0.2.2) :: (prIn I t_0)) (allIn h_0.2.1 I)) = _
    try simp only [iAddQ_eq, iMulQ_eq, iNegQ_eq, lenQ_eq, nthQ_eq, setQ_eq, appQ_eq, mapQ_eq, allQ_eq, anyQ_eq, dropQ_eq, takeQ_eq, revQ_eq, getDQ_eq, optLQ_eq, brecC]
    all_goals
      cases hq_1 : (allIn h_0.2.1 I) with
      | false =>
        try dsimp only [cond_false, cond_true]
        all_goals rfl
      | true =>
        try dsimp only [cond_false, cond_true]
        all_goals rfl
noncomputable def prKeep_a0 :=
  fun (ih : List PD) (h_0 : PD) (I : List Nat) (n : Nat) => ((Bool.rec (motive := fun _ => List PD) (ih) (h_0 :: (ih)) (noneIn h_0.2.1 I n)) : List PD)
noncomputable def prKeep (I : List Nat) (n : Nat) : List PD → List PD :=
  fun e_0 => List.rec (motive := fun _ => List PD) [] (fun h_0 t_0 ih => (prKeep_a0 ih h_0 I n)) e_0 
theorem prKeep_def (I : List Nat) (n : Nat) (e_0 : List PD) : prKeep I n e_0 = (match e_0 with
  | [] => []
  | p :: r => bif noneIn p.2.1 I n then p :: prKeep I n r else prKeep I n r) := by
  cases e_0 with
  | nil =>
    show [] = _
    try simp only [iAddQ_eq, iMulQ_eq, iNegQ_eq, lenQ_eq, nthQ_eq, setQ_eq, appQ_eq, mapQ_eq, allQ_eq, anyQ_eq, dropQ_eq, takeQ_eq, revQ_eq, getDQ_eq, optLQ_eq, brecC]
    all_goals rfl
  | cons h_0 t_0 =>
    show (Bool.rec (motive := fun _ => List PD) (prKeep I n t_0) (h_0 :: (prKeep I n t_0)) (noneIn h_0.2.1 I n)) = _
    try simp only [iAddQ_eq, iMulQ_eq, iNegQ_eq, lenQ_eq, nthQ_eq, setQ_eq, appQ_eq, mapQ_eq, allQ_eq, anyQ_eq, dropQ_eq, takeQ_eq, revQ_eq, getDQ_eq, optLQ_eq, brecC]
    all_goals
      cases hq_1 : (noneIn h_0.2.1 I n) with
      | false =>
        try dsimp only [cond_false, cond_true]
        all_goals rfl
      | true =>
        try dsimp only [cond_false, cond_true]
        all_goals rfl
noncomputable def prBack_a0 :=
  fun (h_0 : PD) (I : List Nat) (n : Nat) (ih : List PD) => (((h_0.1, (mapQ (urA I n) h_0.2.1), h_0.2.2) :: (ih)) : List PD)
noncomputable def prBack_a1 :=
  fun (ih : List PD) (h_0 : PD) (I : List Nat) (n : Nat) (m : Nat) => ((Bool.rec (motive := fun _ => List PD) (ih) (prBack_a0 h_0 I n ih) (allQ (fun i => (Nat.blt i m)) h_0.2.1)) : List PD)
noncomputable def prBack (I : List Nat) (n m : Nat) : List PD → List PD :=
  fun e_0 => List.rec (motive := fun _ => List PD) [] (fun h_0 t_0 ih => (prBack_a1 ih h_0 I n m)) e_0 
theorem prBack_def (I : List Nat) (n m : Nat) (e_0 : List PD) : prBack I n m e_0 = (match e_0 with
  | [] => []
  | p :: r => bif p.2.1.all (fun i => Nat.blt i m) then (p.1, p.2.1.map (urA I n), p.2.2) :: prBack I n m r else prBack I n m r) := by
  cases e_0 with
  | nil =>
    show [] = _
    try simp only [iAddQ_eq, iMulQ_eq, iNegQ_eq, lenQ_eq, nthQ_eq, setQ_eq, appQ_eq, mapQ_eq, allQ_eq, anyQ_eq, dropQ_eq, takeQ_eq, revQ_eq, getDQ_eq, optLQ_eq, brecC]
    all_goals rfl
  | cons h_0 t_0 =>
    show (Bool.rec (motive := fun _ => List PD) (prBack I n m t_0) ((h_0.1, (mapQ (urA I n) h_0.2.1), h_0.2.2) :: (prBack I n m t_0)) (allQ (fun i => (Nat.blt i m)) h_0.2.1)) = _
    try simp only [iAddQ_eq, iMulQ_eq, iNegQ_eq, lenQ_eq, nthQ_eq, setQ_eq, appQ_eq, mapQ_eq, allQ_eq, anyQ_eq, dropQ_eq, takeQ_eq, revQ_eq, getDQ_eq, optLQ_eq, brecC]
    all_goals
      cases hq_1 : (h_0.2.1.all ((fun i => (Nat.blt i m)))) with
      | false =>
        try dsimp only [cond_false, cond_true]
        all_goals rfl
      | true =>
        try dsimp only [cond_false, cond_true]
        all_goals rfl
theorem prIn_mem {I : List Nat} {pr : List PD} {p : PD} (h : p ∈ prIn I pr) : ∃ q ∈ pr, allIn q.2.1 I = true ∧ p = (q.1, q.2.1.map (fun j => ixA j I), q.2.2) := by
  induction pr with
  | nil => cases h
  | cons a r ih =>
    rw [prIn_def] at h
    try dsimp only at h
    cases hm : allIn a.2.1 I with
    | true =>
      rw [hm] at h
      rcases List.mem_cons.mp h with rfl | h
      · exact ⟨a, List.mem_cons_self, hm, rfl⟩
      · obtain ⟨q, q1, q2⟩ := ih h; exact ⟨q, List.mem_cons_of_mem _ q1, q2⟩
    | false => rw [hm] at h; obtain ⟨q, q1, q2⟩ := ih h; exact ⟨q, List.mem_cons_of_mem _ q1, q2⟩
theorem prKeep_mem {I : List Nat} {n : Nat} {pr : List PD} {p : PD} (h : p ∈ prKeep I n pr) : p ∈ pr ∧ noneIn p.2.1 I n = true := by
  induction pr with
  | nil => cases h
  | cons a r ih =>
    rw [prKeep_def] at h
    try dsimp only at h
    cases hm : noneIn a.2.1 I n with
    | true =>
      rw [hm] at h
      rcases List.mem_cons.mp h with rfl | h
      · exact ⟨List.mem_cons_self, hm⟩
      · exact ⟨List.mem_cons_of_mem _ (ih h).1, (ih h).2⟩
    | false => rw [hm] at h; exact ⟨List.mem_cons_of_mem _ (ih h).1, (ih h).2⟩
theorem prBack_mem {I : List Nat} {n m : Nat} {pr : List PD} {p : PD} (h : p ∈ prBack I n m pr) : ∃ q ∈ pr, (∀ i ∈ q.2.1, i < m) ∧ p = (q.1, q.2.1.map (urA I n), q.2.2) := by
  induction pr with
  | nil => cases h
  | cons a r ih =>
    rw [prBack_def] at h
    try dsimp only at h
    cases hm : a.2.1.all (fun i => Nat.blt i m) with
    | true =>
      rw [hm] at h
      rcases List.mem_cons.mp h with rfl | h
      · exact ⟨a, List.mem_cons_self, fun i hi => blt_iff.mp (List.all_eq_true.mp hm i hi), rfl⟩
      · obtain ⟨q, q1, q2⟩ := ih h; exact ⟨q, List.mem_cons_of_mem _ q1, q2⟩
    | false => rw [hm] at h; obtain ⟨q, q1, q2⟩ := ih h; exact ⟨q, List.mem_cons_of_mem _ q1, q2⟩
variable {PP : Nat → List (List Int32) → List Int → Prop} {pr : List PD}
theorem prIn_ok (h : prOk PP ρ σ pr) : prOk PP ρ (subH σ I) (prIn I pr) := fun p hp => by
  obtain ⟨q, q1, q2, rfl⟩ := prIn_mem hp
  have h3 := h q q1
  have e : (q.2.1.map (fun j => ixA j I)).map (fun i => arrI ((subH σ I).getD i (.inl (0, [])))) = q.2.1.map (fun i => arrI (σ.getD i (.inl (0, [])))) := by
    rw [List.map_map]
    refine List.map_congr_left fun i hi => ?_
    have h4 := ixA_get (allIn_ok q2 i hi)
    show arrI ((subH σ I).getD (ixA i I) _) = _
    unfold subH
    rw [List.getD_eq_getElem?_getD, List.getElem?_map, h4.1]
    exact arr_rn I _
  show PP q.1 _ _
  rw [e]
  exact h3
theorem paste_out {h1 : SH} {i : Nat} (hi : i < σ.length) (hn : i ∉ I) : (paste σ I h1)[i]? = σ[i]? := by
  unfold paste
  rw [List.getElem?_append_left (by rw [List.length_mapIdx]; exact hi), List.getElem?_mapIdx]
  rw [List.getElem?_eq_getElem hi, Option.map_some, if_neg hn]
theorem nd_ix {I : List Nat} (h : va_nd I = true) {k j : Nat} (hk : I[k]? = some j) : ixA j I = k :=
  va_nd_inj I h _ _ j (ixA_get (List.mem_of_getElem? hk)).1 hk
theorem paste_in {h1 : SH} {k : Nat} (hnd : va_nd I = true) (hI : ∀ i ∈ I, i < σ.length) (hl : I.length ≤ h1.length) (hk : k < h1.length) : ∃ c, h1[k]? = some c ∧ (paste σ I h1)[urA I σ.length k]? = some (urC I σ.length c) := by
  refine ⟨h1[k], List.getElem?_eq_getElem hk, ?_⟩
  rw [urA_def]
  cases hb : Nat.blt k I.length with
  | true =>
    have hk' := blt_iff.mp hb
    have e1 : I[k]? = some I[k] := List.getElem?_eq_getElem hk'
    have hi := hI _ (List.mem_of_getElem? e1)
    rw [cond_true, List.getD_eq_getElem?_getD, e1]
    show (paste σ I h1)[I[k]]? = _
    unfold paste
    rw [List.getElem?_append_left (by rw [List.length_mapIdx]; exact hi), List.getElem?_mapIdx, List.getElem?_eq_getElem hi, Option.map_some, if_pos (List.mem_of_getElem? e1), ixA_eq, nd_ix hnd e1, List.getD_eq_getElem?_getD, List.getElem?_eq_getElem hk]
    rfl
  | false =>
    have hk' := blt_f hb
    rw [cond_false]
    show (paste σ I h1)[σ.length + (k - I.length)]? = _
    unfold paste
    rw [List.getElem?_append_right (by rw [List.length_mapIdx]; omega), List.length_mapIdx, List.getElem?_map, List.getElem?_drop]
    rw [show I.length + (σ.length + (k - I.length) - σ.length) = k by omega, List.getElem?_eq_getElem hk]
    rfl
theorem prOut_ok {h1 : SH} {pr2 : List PD} (hnd : va_nd I = true) (hI : ∀ i ∈ I, i < σ.length) (hl : I.length ≤ h1.length) (h : prOk PP ρ σ pr) (h2 : prOk PP ρ h1 pr2) : prOk PP ρ (paste σ I h1) (prKeep I σ.length pr ++ prBack I σ.length h1.length pr2) := fun p hp => by
  rcases List.mem_append.mp hp with hp | hp
  · obtain ⟨q1, q2⟩ := prKeep_mem hp
    have h3 := h p q1
    have h4 := noneIn_ok q2
    have e : p.2.1.map (fun i => arrI ((paste σ I h1).getD i (.inl (0, [])))) = p.2.1.map (fun i => arrI (σ.getD i (.inl (0, [])))) := List.map_congr_left fun i hi => by
      rw [List.getD_eq_getElem?_getD, List.getD_eq_getElem?_getD, paste_out (h4 i hi).2 (h4 i hi).1]
    rw [e]
    exact h3
  · obtain ⟨q, q1, q2, rfl⟩ := prBack_mem hp
    have h3 := h2 q q1
    have e : (q.2.1.map (urA I σ.length)).map (fun i => arrI ((paste σ I h1).getD i (.inl (0, [])))) = q.2.1.map (fun i => arrI (h1.getD i (.inl (0, [])))) := by
      rw [List.map_map]
      refine List.map_congr_left fun i hi => ?_
      obtain ⟨c, c1, c2⟩ := paste_in hnd hI hl (q2 i hi)
      show arrI ((paste σ I h1).getD (urA I σ.length i) _) = _
      rw [List.getD_eq_getElem?_getD, List.getD_eq_getElem?_getD, c1, c2]
      exact arr_ur I _ c
    show PP q.1 _ _
    rw [e]
    exact h3
end PASTE
/-! ===== the same, by numbers: a list's places as the digits of one number, a heap by halves ===== -/
section ZED
noncomputable def dgZ (M i : Nat) : Nat :=
  (Nat.land (Nat.shiftRight M (Nat.mul (nat_lit 10) i)) (nat_lit 1023))
theorem dgZ_def (M i : Nat) : dgZ M i = Nat.land (Nat.shiftRight M (Nat.mul 10 i)) 1023 := by
  show (Nat.land (Nat.shiftRight M (Nat.mul (nat_lit 10) i)) (nat_lit 1023)) = _
  all_goals rfl
noncomputable def encZ_a0 :=
  fun (h_0 : Nat) (ih : Nat) => ((Nat.lor h_0 (Nat.shiftLeft (ih) (nat_lit 10))) : Nat)
noncomputable def encZ  : List Nat → Nat :=
  fun e_0 => List.rec (motive := fun _ => Nat) (nat_lit 0) (fun h_0 t_0 ih => (encZ_a0 h_0 ih)) e_0 
theorem encZ_def  (e_0 : List Nat) : encZ  e_0 = (match e_0 with
  | [] => 0
  | a :: l => Nat.lor a (Nat.shiftLeft (encZ l) 10)) := by
  cases e_0 with
  | nil =>
    show (nat_lit 0) = _
    try simp only [iAddQ_eq, iMulQ_eq, iNegQ_eq, lenQ_eq, nthQ_eq, setQ_eq, appQ_eq, mapQ_eq, allQ_eq, anyQ_eq, dropQ_eq, takeQ_eq, revQ_eq, getDQ_eq, optLQ_eq, brecC]
    all_goals rfl
  | cons h_0 t_0 =>
    show (Nat.lor h_0 (Nat.shiftLeft (encZ t_0) (nat_lit 10))) = _
    try simp only [iAddQ_eq, iMulQ_eq, iNegQ_eq, lenQ_eq, nthQ_eq, setQ_eq, appQ_eq, mapQ_eq, allQ_eq, anyQ_eq, dropQ_eq, takeQ_eq, revQ_eq, getDQ_eq, optLQ_eq, brecC]
    all_goals rfl
noncomputable def invZ_a0 :=
  fun (ih : Nat → Nat → Nat) (e_0 : Nat) (e_1 : Nat) (h_0 : Nat) => ((ih (Nat.lor e_0 (Nat.shiftLeft (Nat.succ e_1) (Nat.mul (nat_lit 10) h_0))) (Nat.succ e_1)) : Nat)
noncomputable def invZ  : Nat → Nat → List Nat → Nat :=
  fun e_0 e_1 e_2 => List.rec (motive := fun _ => Nat → Nat → Nat) (fun e_0 e_1 => e_0) (fun h_0 t_0 ih e_0 e_1 => (invZ_a0 ih e_0 e_1 h_0)) e_2 e_0 e_1
theorem invZ_def  (e_0 : Nat) (e_1 : Nat) (e_2 : List Nat) : invZ  e_0 e_1 e_2 = (match e_0, e_1, e_2 with
  | M, _, [] => M
  | M, k, a :: l => invZ (Nat.lor M (Nat.shiftLeft (Nat.succ k) (Nat.mul 10 a))) (Nat.succ k) l) := by
  cases e_2 with
  | nil =>
    show e_0 = _
    try simp only [iAddQ_eq, iMulQ_eq, iNegQ_eq, lenQ_eq, nthQ_eq, setQ_eq, appQ_eq, mapQ_eq, allQ_eq, anyQ_eq, dropQ_eq, takeQ_eq, revQ_eq, getDQ_eq, optLQ_eq, brecC]
    all_goals rfl
  | cons h_0 t_0 =>
    show (invZ (Nat.lor e_0 (Nat.shiftLeft (Nat.succ e_1) (Nat.mul (nat_lit 10) h_0))) (Nat.succ e_1) t_0) = _
    try simp only [iAddQ_eq, iMulQ_eq, iNegQ_eq, lenQ_eq, nthQ_eq, setQ_eq, appQ_eq, mapQ_eq, allQ_eq, anyQ_eq, dropQ_eq, takeQ_eq, revQ_eq, getDQ_eq, optLQ_eq, brecC]
    all_goals rfl
noncomputable def chkBZ_a0 :=
  fun (ih : Nat → Bool) (e_0 : Nat) (h_0 : Nat) (N : Nat) => ((Bool.rec (motive := fun _ => Bool) false (ih (Nat.succ e_0)) (Nat.blt h_0 N)) : Bool)
noncomputable def chkBZ_a1 :=
  fun (ih : Nat → Bool) (e_0 : Nat) (h_0 : Nat) (N : Nat) (M : Nat) => ((Bool.rec (motive := fun _ => Bool) false (chkBZ_a0 ih e_0 h_0 N) (Nat.beq (dgZ M h_0) (Nat.succ e_0))) : Bool)
noncomputable def chkBZ_a2 :=
  fun (ih : Nat → Bool) (e_0 : Nat) (h_0 : Nat) (N : Nat) (M : Nat) (MI : Nat) => ((Bool.rec (motive := fun _ => Bool) false (chkBZ_a1 ih e_0 h_0 N M) (Nat.beq (dgZ MI e_0) h_0)) : Bool)
noncomputable def chkBZ (MI M N : Nat) : Nat → List Nat → Bool :=
  fun e_0 e_1 => List.rec (motive := fun _ => Nat → Bool) (fun e_0 => true) (fun h_0 t_0 ih e_0 => (chkBZ_a2 ih e_0 h_0 N M MI)) e_1 e_0
theorem chkBZ_def (MI M N : Nat) (e_0 : Nat) (e_1 : List Nat) : chkBZ MI M N e_0 e_1 = (match e_0, e_1 with
  | _, [] => true
  | k, a :: l => bif Nat.beq (dgZ MI k) a then (bif Nat.beq (dgZ M a) (Nat.succ k) then (bif Nat.blt a N then chkBZ MI M N (Nat.succ k) l else false) else false) else false) := by
  cases e_1 with
  | nil =>
    show true = _
    try simp only [iAddQ_eq, iMulQ_eq, iNegQ_eq, lenQ_eq, nthQ_eq, setQ_eq, appQ_eq, mapQ_eq, allQ_eq, anyQ_eq, dropQ_eq, takeQ_eq, revQ_eq, getDQ_eq, optLQ_eq, brecC]
    all_goals rfl
  | cons h_0 t_0 =>
    show (Bool.rec (motive := fun _ => Bool) false (Bool.rec (motive := fun _ => Bool) false (Bool.rec (motive := fun _ => Bool) false (chkBZ MI M N (Nat.succ e_0) t_0) (Nat.blt h_0 N)) (Nat.beq (dgZ M h_0) (Nat.succ e_0))) (Nat.beq (dgZ MI e_0) h_0)) = _
    try simp only [iAddQ_eq, iMulQ_eq, iNegQ_eq, lenQ_eq, nthQ_eq, setQ_eq, appQ_eq, mapQ_eq, allQ_eq, anyQ_eq, dropQ_eq, takeQ_eq, revQ_eq, getDQ_eq, optLQ_eq, brecC]
    all_goals
      cases hq_1 : (Nat.beq ((dgZ MI e_0)) h_0) with
      | false =>
        try dsimp only [cond_false, cond_true]
        all_goals rfl
      | true =>
        try dsimp only [cond_false, cond_true]
        all_goals
          cases hq_2 : (Nat.beq ((dgZ M h_0)) ((Nat.succ e_0))) with
          | false =>
            try dsimp only [cond_false, cond_true]
            all_goals rfl
          | true =>
            try dsimp only [cond_false, cond_true]
            all_goals
              cases hq_3 : (Nat.blt h_0 N) with
              | false =>
                try dsimp only [cond_false, cond_true]
                all_goals rfl
              | true =>
                try dsimp only [cond_false, cond_true]
                all_goals rfl
noncomputable def chkAZ_a0 :=
  fun (MI : Nat) (M : Nat) (t_0 : Nat) => ((Nat.beq (dgZ MI (Nat.sub (dgZ M t_0) (nat_lit 1))) t_0) : Bool)
noncomputable def chkAZ_a1 :=
  fun (MI : Nat) (M : Nat) (t_0 : Nat) (n : Nat) => ((Bool.rec (motive := fun _ => Bool) false (chkAZ_a0 MI M t_0) (Nat.ble (dgZ M t_0) n)) : Bool)
noncomputable def chkAZ_a2 :=
  fun (ih : Bool) (MI : Nat) (M : Nat) (t_0 : Nat) (n : Nat) => ((Bool.rec (motive := fun _ => Bool) false (ih) (Bool.rec (motive := fun _ => Bool) (chkAZ_a1 MI M t_0 n) true (Nat.beq (dgZ M t_0) (nat_lit 0)))) : Bool)
noncomputable def chkAZ (MI M n : Nat) : Nat → Bool :=
  fun e_0 => Nat.rec (motive := fun _ => Bool) true (fun t_0 ih => (chkAZ_a2 ih MI M t_0 n)) e_0 
theorem chkAZ_def (MI M n : Nat) (e_0 : Nat) : chkAZ MI M n e_0 = (match e_0 with
  | 0 => true
  | j + 1 => bif (bif Nat.beq (dgZ M j) 0 then true else bif Nat.ble (dgZ M j) n then Nat.beq (dgZ MI (Nat.sub (dgZ M j) 1)) j else false) then chkAZ MI M n j else false) := by
  cases e_0 with
  | zero =>
    show true = _
    try simp only [iAddQ_eq, iMulQ_eq, iNegQ_eq, lenQ_eq, nthQ_eq, setQ_eq, appQ_eq, mapQ_eq, allQ_eq, anyQ_eq, dropQ_eq, takeQ_eq, revQ_eq, getDQ_eq, optLQ_eq, brecC]
    all_goals rfl
  | succ t_0 =>
    show (Bool.rec (motive := fun _ => Bool) false (chkAZ MI M n t_0) (Bool.rec (motive := fun _ => Bool) (Bool.rec (motive := fun _ => Bool) false (Nat.beq (dgZ MI (Nat.sub (dgZ M t_0) (nat_lit 1))) t_0) (Nat.ble (dgZ M t_0) n)) true (Nat.beq (dgZ M t_0) (nat_lit 0)))) = _
    try simp only [iAddQ_eq, iMulQ_eq, iNegQ_eq, lenQ_eq, nthQ_eq, setQ_eq, appQ_eq, mapQ_eq, allQ_eq, anyQ_eq, dropQ_eq, takeQ_eq, revQ_eq, getDQ_eq, optLQ_eq, brecC]
    all_goals
      cases hq_1 : ((bif (Nat.beq ((dgZ M t_0)) 0) then true else (bif (Nat.ble ((dgZ M t_0)) n) then (Nat.beq ((dgZ MI ((Nat.sub ((dgZ M t_0)) 1)))) t_0) else false))) with
      | false =>
        try dsimp only [cond_false, cond_true]
        all_goals rfl
      | true =>
        try dsimp only [cond_false, cond_true]
        all_goals rfl
theorem chkBZ_ok {MI M N : Nat} (I : List Nat) : ∀ (k : Nat), chkBZ MI M N k I = true → ∀ (t a : Nat), I[t]? = some a → dgZ MI (k + t) = a ∧ dgZ M a = k + t + 1 ∧ a < N := by
  induction I with
  | nil => intro k _ t a ht; rw [List.getElem?_nil] at ht; cases ht
  | cons b l ih =>
    intro k h t a ht
    rw [chkBZ_def] at h
    try dsimp only at h
    obtain ⟨h1, h⟩ := cand0 h
    obtain ⟨h2, h⟩ := cand0 h
    obtain ⟨h3, h⟩ := cand0 h
    cases t with
    | zero =>
      rw [List.getElem?_cons_zero] at ht
      cases ht
      exact ⟨Nat.eq_of_beq_eq_true h1, Nat.eq_of_beq_eq_true h2, blt_iff.mp h3⟩
    | succ t =>
      rw [List.getElem?_cons_succ] at ht
      obtain ⟨e1, e2, e3⟩ := ih (Nat.succ k) h t a ht
      refine ⟨?_, ?_, e3⟩
      · rw [← e1]
        congr 1
        omega
      · rw [e2]
        omega
theorem chkAZ_ok {MI M n : Nat} (N : Nat) : chkAZ MI M n N = true → ∀ j, j < N → dgZ M j = 0 ∨ (dgZ M j ≤ n ∧ dgZ MI (dgZ M j - 1) = j) := by
  induction N with
  | zero => intro _ j hj; omega
  | succ N ih =>
    intro h j hj
    rw [chkAZ_def] at h
    try dsimp only at h
    obtain ⟨h1, h2⟩ := cand0 h
    by_cases e : j = N
    · subst e
      cases z : Nat.beq (dgZ M j) 0 with
      | true => exact Or.inl (Nat.eq_of_beq_eq_true z)
      | false =>
        rw [z] at h1
        simp only [cond_false] at h1
        obtain ⟨a1, a2⟩ := cand0 h1
        exact Or.inr ⟨Nat.le_of_ble_eq_true a1, Nat.eq_of_beq_eq_true a2⟩
    · exact ih h2 j (by omega)
noncomputable def okZ_a0 :=
  fun (I : List Nat) (N : Nat) => ((chkAZ (encZ I) (invZ (nat_lit 0) (nat_lit 0) I) (lenQ I) N) : Bool)
noncomputable def okZ (I : List Nat) (N : Nat) : Bool :=
  (Bool.rec (motive := fun _ => Bool) false (okZ_a0 I N) (chkBZ (encZ I) (invZ (nat_lit 0) (nat_lit 0) I) N (nat_lit 0) I))
theorem okZ_def (I : List Nat) (N : Nat) : okZ I N = bif chkBZ (encZ I) (invZ 0 0 I) N 0 I then chkAZ (encZ I) (invZ 0 0 I) I.length N else false := by
  show (Bool.rec (motive := fun _ => Bool) false (chkAZ (encZ I) (invZ (nat_lit 0) (nat_lit 0) I) (lenQ I) N) (chkBZ (encZ I) (invZ (nat_lit 0) (nat_lit 0) I) N (nat_lit 0) I)) = _
  try simp only [iAddQ_eq, iMulQ_eq, iNegQ_eq, lenQ_eq, nthQ_eq, setQ_eq, appQ_eq, mapQ_eq, allQ_eq, anyQ_eq, dropQ_eq, takeQ_eq, revQ_eq, getDQ_eq, optLQ_eq, brecC]
  all_goals
    cases hq_1 : (chkBZ ((encZ I)) ((invZ 0 0 I)) N 0 I) with
    | false =>
      try dsimp only [cond_false, cond_true]
      all_goals rfl
    | true =>
      try dsimp only [cond_false, cond_true]
      all_goals rfl
theorem ixA_len {j : Nat} {I : List Nat} (h : j ∉ I) : ixA j I = I.length := by
  induction I with
  | nil =>
    rw [ixA_def]
    try dsimp only
    try rfl
  | cons a l ih =>
    rw [ixA_def]
    try dsimp only
    cases h1 : Nat.beq a j with
    | true => exact absurd (by rw [Nat.eq_of_beq_eq_true h1]; exact List.mem_cons_self) h
    | false =>
      have h2 := ih (fun q => h (List.mem_cons_of_mem _ q))
      show Nat.succ (ixA j l) = l.length + 1
      rw [h2]
theorem okZ_ix {I : List Nat} {N : Nat} (h : okZ I N = true) : (∀ j, j < N → j ∉ I → dgZ (invZ 0 0 I) j = 0) ∧ (∀ j ∈ I, dgZ (invZ 0 0 I) j = ixA j I + 1 ∧ j < N) ∧ ∀ k a, I[k]? = some a → dgZ (encZ I) k = a := by
  rw [okZ_def] at h
  obtain ⟨hb, ha⟩ := cand0 h
  have B := chkBZ_ok I 0 hb
  have A := chkAZ_ok N ha
  refine ⟨fun j hj q => ?_, fun j hj => ?_, fun k a hk => ?_⟩
  · rcases A j hj with e | ⟨e1, e2⟩
    · exact e
    · by_cases z : dgZ (invZ 0 0 I) j = 0
      · exact z
      · exfalso
        have hk : dgZ (invZ 0 0 I) j - 1 < I.length := by omega
        have b1 := (B _ _ (List.getElem?_eq_getElem hk)).1
        rw [Nat.zero_add, e2] at b1
        exact q (by rw [b1]; exact List.getElem_mem hk)
  · obtain ⟨e1, e2⟩ := ixA_get hj
    obtain ⟨-, b2, b3⟩ := B _ _ e1
    exact ⟨by rw [b2]; omega, b3⟩
  · have b1 := (B k a hk).1
    rwa [Nat.zero_add] at b1
noncomputable def ixZ_a0 :=
  fun (M : Nat) (j : Nat) (n : Nat) => ((Bool.rec (motive := fun _ => Nat) (Nat.sub (dgZ M j) (nat_lit 1)) n (Nat.beq (dgZ M j) (nat_lit 0))) : Nat)
noncomputable def ixZ (M n N j : Nat) : Nat :=
  (Bool.rec (motive := fun _ => Nat) n (ixZ_a0 M j n) (Nat.blt j N))
theorem ixZ_def (M n N j : Nat) : ixZ M n N j = bif Nat.blt j N then (bif Nat.beq (dgZ M j) 0 then n else Nat.sub (dgZ M j) 1) else n := by
  show (Bool.rec (motive := fun _ => Nat) n (Bool.rec (motive := fun _ => Nat) (Nat.sub (dgZ M j) (nat_lit 1)) n (Nat.beq (dgZ M j) (nat_lit 0))) (Nat.blt j N)) = _
  try simp only [iAddQ_eq, iMulQ_eq, iNegQ_eq, lenQ_eq, nthQ_eq, setQ_eq, appQ_eq, mapQ_eq, allQ_eq, anyQ_eq, dropQ_eq, takeQ_eq, revQ_eq, getDQ_eq, optLQ_eq, brecC]
  all_goals
    cases hq_1 : (Nat.blt j N) with
    | false =>
      try dsimp only [cond_false, cond_true]
      all_goals rfl
    | true =>
      try dsimp only [cond_false, cond_true]
      all_goals
        cases hq_2 : (Nat.beq ((dgZ M j)) 0) with
        | false =>
          try dsimp only [cond_false, cond_true]
          all_goals rfl
        | true =>
          try dsimp only [cond_false, cond_true]
          all_goals rfl
theorem ixZ_eq {I : List Nat} {N : Nat} (h : okZ I N = true) (j : Nat) : ixZ (invZ 0 0 I) I.length N j = ixA j I := by
  rw [ixZ_def]
  by_cases hj : j ∈ I
  · obtain ⟨e1, e2⟩ := (okZ_ix h).2.1 j hj
    rw [show Nat.blt j N = true from blt_iff.mpr e2, e1]
    rfl
  · rw [ixA_len hj]
    cases hb : Nat.blt j N with
    | false => rfl
    | true => rw [(okZ_ix h).1 j (blt_iff.mp hb) hj]; rfl
noncomputable def urZ (MI n nA k : Nat) : Nat :=
  (Bool.rec (motive := fun _ => Nat) (Nat.add nA (Nat.sub k n)) (dgZ MI k) (Nat.blt k n))
theorem urZ_def (MI n nA k : Nat) : urZ MI n nA k = bif Nat.blt k n then dgZ MI k else Nat.add nA (Nat.sub k n) := by
  show (Bool.rec (motive := fun _ => Nat) (Nat.add nA (Nat.sub k n)) (dgZ MI k) (Nat.blt k n)) = _
  try simp only [iAddQ_eq, iMulQ_eq, iNegQ_eq, lenQ_eq, nthQ_eq, setQ_eq, appQ_eq, mapQ_eq, allQ_eq, anyQ_eq, dropQ_eq, takeQ_eq, revQ_eq, getDQ_eq, optLQ_eq, brecC]
  all_goals
    cases hq_1 : (Nat.blt k n) with
    | false =>
      try dsimp only [cond_false, cond_true]
      all_goals rfl
    | true =>
      try dsimp only [cond_false, cond_true]
      all_goals rfl
theorem urZ_eq {I : List Nat} {N : Nat} (h : okZ I N = true) (nA k : Nat) : urZ (encZ I) I.length nA k = urA I nA k := by
  rw [urZ_def, urA_def]
  cases hb : Nat.blt k I.length with
  | false => rfl
  | true =>
    have hk := blt_iff.mp hb
    simp only [cond_true]
    rw [List.getD_eq_getElem?_getD, List.getElem?_eq_getElem hk]
    exact (okZ_ix h).2.2 k _ (List.getElem?_eq_getElem hk)
noncomputable def balZ_a0 :=
  (((fun _ => (.inl ((nat_lit 0), []))), []) : (Nat → AC) × AH)
noncomputable def balZ_a1 :=
  fun (g_1271 : (Nat → AC)) t (t_0 : Nat) => (g_1271 (Nat.sub t (Nat.shiftLeft (nat_lit 1) t_0)))
noncomputable def balZ_a2 :=
  fun (g_1271 : (Nat → AC)) (t_0 : Nat) (f_1269 : (Nat → AC)) (q_1272 : AH) => (((fun t => (Bool.rec (motive := fun _ => _) (balZ_a1 g_1271 t t_0) (f_1269 t) (Nat.blt t (Nat.shiftLeft (nat_lit 1) t_0)))), q_1272) : (Nat → AC) × AH)
noncomputable def balZ  : Nat → AH → (Nat → AC) × AH :=
  fun e_0 e_1 => Nat.rec (motive := fun _ => AH → (Nat → AC) × AH) (fun e_1 => (List.rec (motive := fun _ => (Nat → AC) × AH) balZ_a0 (fun c_1267 r_1268 _ => ((fun _ => c_1267), r_1268)) e_1)) (fun t_0 ih e_1 => (Prod.rec (motive := fun _ => (Nat → AC) × AH) (fun f_1269 r_1270 => (Prod.rec (motive := fun _ => (Nat → AC) × AH) (fun g_1271 q_1272 => (balZ_a2 g_1271 t_0 f_1269 q_1272)) (ih r_1270))) (ih e_1))) e_0 e_1
theorem balZ_def  (e_0 : Nat) (e_1 : AH) : balZ  e_0 e_1 = (match e_0, e_1 with
  | 0, [] => (fun _ => .inl (0, []), [])
  | 0, c :: r => (fun _ => c, r)
  | n + 1, l => match balZ n l with
    | (f, r) => match balZ n r with
      | (g, q) => (fun t => bif Nat.blt t (Nat.shiftLeft 1 n) then f t else g (Nat.sub t (Nat.shiftLeft 1 n)), q)) := by
  cases e_0 with
  | zero =>
    show (List.rec (motive := fun _ => (Nat → AC) × AH) ((fun _ => (.inl ((nat_lit 0), []))), []) (fun c_1273 r_1274 _ => ((fun _ => c_1273), r_1274)) e_1) = _
    try simp only [iAddQ_eq, iMulQ_eq, iNegQ_eq, lenQ_eq, nthQ_eq, setQ_eq, appQ_eq, mapQ_eq, allQ_eq, anyQ_eq, dropQ_eq, takeQ_eq, revQ_eq, getDQ_eq, optLQ_eq, brecC]
    all_goals
      cases e_1 with
      | nil =>
        try dsimp only [cond_false, cond_true]
        all_goals rfl
      | cons y_1275 y_1276 =>
        try dsimp only [cond_false, cond_true]
        all_goals rfl
  | succ t_0 =>
    show (Prod.rec (motive := fun _ => (Nat → AC) × AH) (fun f_1277 r_1278 => (Prod.rec (motive := fun _ => (Nat → AC) × AH) (fun g_1279 q_1280 => ((fun t => (Bool.rec (motive := fun _ => _) (g_1279 (Nat.sub t (Nat.shiftLeft (nat_lit 1) t_0))) (f_1277 t) (Nat.blt t (Nat.shiftLeft (nat_lit 1) t_0)))), q_1280)) (balZ t_0 r_1278))) (balZ t_0 e_1)) = _
    try simp only [iAddQ_eq, iMulQ_eq, iNegQ_eq, lenQ_eq, nthQ_eq, setQ_eq, appQ_eq, mapQ_eq, allQ_eq, anyQ_eq, dropQ_eq, takeQ_eq, revQ_eq, getDQ_eq, optLQ_eq, brecC]
    all_goals
      cases hq_2 : (balZ t_0 e_1) with
      | mk y_1281 y_1282 =>
        try dsimp only [cond_false, cond_true]
        all_goals
          cases hq_3 : (balZ t_0 y_1282) with
          | mk y_1283 y_1284 =>
            try dsimp only [cond_false, cond_true]
            all_goals rfl
theorem balZ_ok : ∀ (n : Nat) (l : AH), (balZ n l).2 = l.drop (2 ^ n) ∧ ∀ t, t < 2 ^ n → (balZ n l).1 t = l.getD t (.inl (0, [])) := by
  intro n
  induction n with
  | zero =>
    intro l
    cases l with
    | nil =>
      rw [balZ_def]
      try dsimp only
      exact ⟨rfl, fun t _ => rfl⟩
    | cons c r =>
      rw [balZ_def]
      try dsimp only
      refine ⟨rfl, fun t ht => ?_⟩
      rw [show t = 0 by rw [Nat.pow_zero] at ht; omega]
      rfl
  | succ n ih =>
    intro l
    rw [balZ_def]
    try dsimp only
    obtain ⟨a1, a2⟩ := ih l
    cases h1 : balZ n l with
    | mk f r =>
      rw [h1] at a1 a2
      obtain ⟨b1, b2⟩ := ih r
      cases h2 : balZ n r with
      | mk g q =>
        rw [h2] at b1 b2
        try dsimp only at a1 a2 b1 b2 ⊢
        have hp : Nat.shiftLeft 1 n = 2 ^ n := Nat.one_shiftLeft n
        have hs : 2 ^ (n + 1) = 2 ^ n + 2 ^ n := by rw [Nat.pow_succ]; omega
        refine ⟨?_, fun t ht => ?_⟩
        · rw [b1, a1, List.drop_drop, hs]
        · rw [hp]
          cases hb : Nat.blt t (2 ^ n) with
          | true => exact a2 t (blt_iff.mp hb)
          | false =>
            have h3 := blt_f hb
            show g (t - 2 ^ n) = _
            rw [b2 (t - 2 ^ n) (by omega), a1, List.getD_eq_getElem?_getD, List.getD_eq_getElem?_getD, List.getElem?_drop]
            rw [show 2 ^ n + (t - 2 ^ n) = t by omega]
noncomputable def lvZ (A : AH) : Nat :=
  (Nat.succ (Nat.log2 (lenQ A)))
theorem lvZ_def (A : AH) : lvZ A = Nat.succ (Nat.log2 A.length) := by
  show (Nat.succ (Nat.log2 (lenQ A))) = _
  try simp only [iAddQ_eq, iMulQ_eq, iNegQ_eq, lenQ_eq, nthQ_eq, setQ_eq, appQ_eq, mapQ_eq, allQ_eq, anyQ_eq, dropQ_eq, takeQ_eq, revQ_eq, getDQ_eq, optLQ_eq, brecC]
  all_goals rfl
noncomputable def aSubZ_a0 :=
  fun (A : AH) => ((Nat.ble (lenQ A) (Nat.shiftLeft (nat_lit 1) (lvZ A))) : Bool)
noncomputable def aSubZ_a1 :=
  fun (I : List Nat) (A : AH) (f_1287 : (Nat → AC)) => ((mapQ (fun i => (mpC (ixZ (invZ (nat_lit 0) (nat_lit 0) I) (lenQ I) (lenQ A)) (f_1287 i))) I) : AH)
noncomputable def aSubZ (A : AH) (I : List Nat) : AH :=
  (Bool.rec (motive := fun _ => AH) (aSubH A I) (Prod.rec (motive := fun _ => AH) (fun f_1287 x_1288 => (aSubZ_a1 I A f_1287)) (balZ (lvZ A) A)) (Bool.rec (motive := fun _ => Bool) false (aSubZ_a0 A) (okZ I (lenQ A))))
theorem aSubZ_def (A : AH) (I : List Nat) : aSubZ A I = (bif (bif okZ I A.length then Nat.ble A.length (Nat.shiftLeft 1 (lvZ A)) else false) then (match balZ (lvZ A) A with
  | (f, _) => I.map (fun i => mpC (ixZ (invZ 0 0 I) I.length A.length) (f i))) else aSubH A I) := by
  show (Bool.rec (motive := fun _ => AH) (aSubH A I) (Prod.rec (motive := fun _ => AH) (fun f_1285 x_1286 => (mapQ (fun i => (mpC (ixZ (invZ (nat_lit 0) (nat_lit 0) I) (lenQ I) (lenQ A)) (f_1285 i))) I)) (balZ (lvZ A) A)) (Bool.rec (motive := fun _ => Bool) false (Nat.ble (lenQ A) (Nat.shiftLeft (nat_lit 1) (lvZ A))) (okZ I (lenQ A)))) = _
  try simp only [iAddQ_eq, iMulQ_eq, iNegQ_eq, lenQ_eq, nthQ_eq, setQ_eq, appQ_eq, mapQ_eq, allQ_eq, anyQ_eq, dropQ_eq, takeQ_eq, revQ_eq, getDQ_eq, optLQ_eq, brecC]
  all_goals
    cases hq_1 : ((bif (okZ I A.length) then (Nat.ble A.length ((Nat.shiftLeft 1 ((lvZ A))))) else false)) with
    | false =>
      try dsimp only [cond_false, cond_true]
      all_goals rfl
    | true =>
      try dsimp only [cond_false, cond_true]
      all_goals
        cases hq_2 : (balZ ((lvZ A)) A) with
        | mk y_1289 y_1290 =>
          try dsimp only [cond_false, cond_true]
          all_goals rfl
theorem aSubZ_eq (A : AH) (I : List Nat) : aSubZ A I = aSubH A I := by
  rw [aSubZ_def]
  cases hc : (bif okZ I A.length then Nat.ble A.length (Nat.shiftLeft 1 (lvZ A)) else false) with
  | false => rfl
  | true =>
    obtain ⟨h1, h2⟩ := cand0 hc
    have h3 := Nat.le_of_ble_eq_true h2
    rw [show Nat.shiftLeft 1 (lvZ A) = 2 ^ lvZ A from Nat.one_shiftLeft _] at h3
    obtain ⟨-, b2⟩ := balZ_ok (lvZ A) A
    cases hb : balZ (lvZ A) A with
    | mk f r =>
      rw [hb] at b2
      try dsimp only at b2
      show I.map (fun i => mpC (ixZ (invZ 0 0 I) I.length A.length) (f i)) = _
      rw [aSubH_def]
      rw [show ixZ (invZ 0 0 I) I.length A.length = fun j => ixA j I from funext (ixZ_eq h1)]
      refine List.map_congr_left fun i hi => ?_
      have hlt := ((okZ_ix h1).2.1 i hi).2
      rw [b2 i (by omega)]
noncomputable def pasteZ_a0 :=
  fun (h : Nat → AC) (M : Nat) (e_0 : Nat) => (h (Nat.sub (dgZ M e_0) (nat_lit 1)))
noncomputable def pasteZ_a1 :=
  fun (MI : Nat) (n : Nat) (nA : Nat) (h_0 : AC) (h : Nat → AC) (M : Nat) (e_0 : Nat) (nH : Nat) => (mpC (urZ MI n nA) (Bool.rec (motive := fun _ => _) h_0 (pasteZ_a0 h M e_0) (Nat.blt (Nat.sub (dgZ M e_0) (nat_lit 1)) nH)))
noncomputable def pasteZ_a2 :=
  fun (MI : Nat) (n : Nat) (nA : Nat) (h_0 : AC) (h : Nat → AC) (M : Nat) (e_0 : Nat) (nH : Nat) (ih : Nat → AH) => (((Bool.rec (motive := fun _ => _) (pasteZ_a1 MI n nA h_0 h M e_0 nH) h_0 (Nat.beq (dgZ M e_0) (nat_lit 0))) :: (ih (Nat.succ e_0))) : AH)
noncomputable def pasteZ (MI M n nA nH : Nat) (h : Nat → AC) : Nat → AH → AH :=
  fun e_0 e_1 => List.rec (motive := fun _ => Nat → AH) (fun e_0 => []) (fun h_0 t_0 ih e_0 => (pasteZ_a2 MI n nA h_0 h M e_0 nH ih)) e_1 e_0
theorem pasteZ_def (MI M n nA nH : Nat) (h : Nat → AC) (e_0 : Nat) (e_1 : AH) : pasteZ MI M n nA nH h e_0 e_1 = (match e_0, e_1 with
  | _, [] => []
  | i, c :: r => (bif Nat.beq (dgZ M i) 0 then c else mpC (urZ MI n nA) (bif Nat.blt (Nat.sub (dgZ M i) 1) nH then h (Nat.sub (dgZ M i) 1) else c)) :: pasteZ MI M n nA nH h (Nat.succ i) r) := by
  cases e_1 with
  | nil =>
    show [] = _
    try simp only [iAddQ_eq, iMulQ_eq, iNegQ_eq, lenQ_eq, nthQ_eq, setQ_eq, appQ_eq, mapQ_eq, allQ_eq, anyQ_eq, dropQ_eq, takeQ_eq, revQ_eq, getDQ_eq, optLQ_eq, brecC]
    all_goals rfl
  | cons h_0 t_0 =>
    show ((Bool.rec (motive := fun _ => _) (mpC (urZ MI n nA) (Bool.rec (motive := fun _ => _) h_0 (h (Nat.sub (dgZ M e_0) (nat_lit 1))) (Nat.blt (Nat.sub (dgZ M e_0) (nat_lit 1)) nH))) h_0 (Nat.beq (dgZ M e_0) (nat_lit 0))) :: (pasteZ MI M n nA nH h (Nat.succ e_0) t_0)) = _
    try simp only [iAddQ_eq, iMulQ_eq, iNegQ_eq, lenQ_eq, nthQ_eq, setQ_eq, appQ_eq, mapQ_eq, allQ_eq, anyQ_eq, dropQ_eq, takeQ_eq, revQ_eq, getDQ_eq, optLQ_eq, brecC]
    all_goals rfl
theorem pasteZ_eq {I : List Nat} {N nA : Nat} {H1 : AH} {g : Nat → AC} (h : okZ I N = true) (hg : ∀ t, t < H1.length → g t = H1.getD t (.inl (0, []))) (A : AH) : ∀ i, i + A.length ≤ N → pasteZ (encZ I) (invZ 0 0 I) I.length nA H1.length g i A = pasteGo I nA H1 i A := by
  induction A with
  | nil =>
    intro i _
    rw [pasteZ_def, pasteGo_def]
    try dsimp only
    try rfl
  | cons c r ih =>
    intro i hi
    rw [pasteZ_def, pasteGo_def]
    try dsimp only
    rw [List.length_cons] at hi
    rw [ih (Nat.succ i) (by omega)]
    congr 1
    cases hm : memN i I with
    | false =>
      rw [(okZ_ix h).1 i (by omega) (fun q => by rw [memN_iff.mpr q] at hm; cases hm)]
      rfl
    | true =>
      obtain ⟨e1, e2⟩ := (okZ_ix h).2.1 i (memN_iff.mp hm)
      rw [e1, show urZ (encZ I) I.length nA = urA I nA from funext (urZ_eq h nA)]
      show mpC (urA I nA) (bif Nat.blt (ixA i I) H1.length then g (ixA i I) else c) = mpC (urA I nA) (H1.getD (ixA i I) c)
      congr 1
      cases hb : Nat.blt (ixA i I) H1.length with
      | true =>
        have hk := blt_iff.mp hb
        rw [cond_true, hg _ hk, List.getD_eq_getElem?_getD, List.getD_eq_getElem?_getD, List.getElem?_eq_getElem hk]
        rfl
      | false =>
        have hk := blt_f hb
        rw [cond_false, List.getD_eq_getElem?_getD, List.getElem?_eq_none (by omega)]
        rfl
noncomputable def aPasteZ_a0 :=
  fun (H1 : AH) => ((Nat.ble (lenQ H1) (Nat.shiftLeft (nat_lit 1) (lvZ H1))) : Bool)
noncomputable def aPasteZ_a1 :=
  fun (I : List Nat) (A : AH) (H1 : AH) (h_1293 : (Nat → AC)) => ((appQ (pasteZ (encZ I) (invZ (nat_lit 0) (nat_lit 0) I) (lenQ I) (lenQ A) (lenQ H1) h_1293 (nat_lit 0) A) (mapQ (mpC (urZ (encZ I) (lenQ I) (lenQ A))) (dropQ (lenQ I) H1))) : AH)
noncomputable def aPasteZ (A : AH) (I : List Nat) (H1 : AH) : AH :=
  (Bool.rec (motive := fun _ => AH) (aPaste A I H1) (Prod.rec (motive := fun _ => AH) (fun h_1293 x_1294 => (aPasteZ_a1 I A H1 h_1293)) (balZ (lvZ H1) H1)) (Bool.rec (motive := fun _ => Bool) false (aPasteZ_a0 H1) (okZ I (lenQ A))))
theorem aPasteZ_def (A : AH) (I : List Nat) (H1 : AH) : aPasteZ A I H1 = (bif (bif okZ I A.length then Nat.ble H1.length (Nat.shiftLeft 1 (lvZ H1)) else false) then (match balZ (lvZ H1) H1 with
  | (h, _) => pasteZ (encZ I) (invZ 0 0 I) I.length A.length H1.length h 0 A ++ (H1.drop I.length).map (mpC (urZ (encZ I) I.length A.length))) else aPaste A I H1) := by
  show (Bool.rec (motive := fun _ => AH) (aPaste A I H1) (Prod.rec (motive := fun _ => AH) (fun h_1291 x_1292 => (appQ (pasteZ (encZ I) (invZ (nat_lit 0) (nat_lit 0) I) (lenQ I) (lenQ A) (lenQ H1) h_1291 (nat_lit 0) A) (mapQ (mpC (urZ (encZ I) (lenQ I) (lenQ A))) (dropQ (lenQ I) H1)))) (balZ (lvZ H1) H1)) (Bool.rec (motive := fun _ => Bool) false (Nat.ble (lenQ H1) (Nat.shiftLeft (nat_lit 1) (lvZ H1))) (okZ I (lenQ A)))) = _
  try simp only [iAddQ_eq, iMulQ_eq, iNegQ_eq, lenQ_eq, nthQ_eq, setQ_eq, appQ_eq, mapQ_eq, allQ_eq, anyQ_eq, dropQ_eq, takeQ_eq, revQ_eq, getDQ_eq, optLQ_eq, brecC]
  all_goals
    cases hq_1 : ((bif (okZ I A.length) then (Nat.ble H1.length ((Nat.shiftLeft 1 ((lvZ H1))))) else false)) with
    | false =>
      try dsimp only [cond_false, cond_true]
      all_goals rfl
    | true =>
      try dsimp only [cond_false, cond_true]
      all_goals
        cases hq_2 : (balZ ((lvZ H1)) H1) with
        | mk y_1295 y_1296 =>
          try dsimp only [cond_false, cond_true]
          all_goals rfl
theorem aPasteZ_eq (A : AH) (I : List Nat) (H1 : AH) : aPasteZ A I H1 = aPaste A I H1 := by
  rw [aPasteZ_def]
  cases hc : (bif okZ I A.length then Nat.ble H1.length (Nat.shiftLeft 1 (lvZ H1)) else false) with
  | false => rfl
  | true =>
    obtain ⟨h1, h2⟩ := cand0 hc
    have h3 := Nat.le_of_ble_eq_true h2
    rw [show Nat.shiftLeft 1 (lvZ H1) = 2 ^ lvZ H1 from Nat.one_shiftLeft _] at h3
    obtain ⟨-, b2⟩ := balZ_ok (lvZ H1) H1
    cases hb : balZ (lvZ H1) H1 with
    | mk f r =>
      rw [hb] at b2
      try dsimp only at b2
      show pasteZ (encZ I) (invZ 0 0 I) I.length A.length H1.length f 0 A ++ (H1.drop I.length).map (mpC (urZ (encZ I) I.length A.length)) = _
      rw [aPaste_def]
      rw [pasteZ_eq h1 (fun t ht => b2 t (by omega)) A 0 (by omega), show urZ (encZ I) I.length A.length = urA I A.length from funext (urZ_eq h1 A.length)]
theorem memN_nil (q : Nat) : memN q [] = false := by
  rw [memN_def]
  try dsimp only
  try rfl
theorem memN_cons (q a : Nat) (r : List Nat) : memN q (a :: r) = bif Nat.beq q a then true else memN q r := by
  rw [memN_def]
  try dsimp only
  try rfl
noncomputable def bitZ (M i : Nat) : Bool :=
  (Nat.beq (Nat.land (Nat.shiftRight M i) (nat_lit 1)) (nat_lit 1))
theorem bitZ_def (M i : Nat) : bitZ M i = Nat.beq (Nat.land (Nat.shiftRight M i) 1) 1 := by
  show (Nat.beq (Nat.land (Nat.shiftRight M i) (nat_lit 1)) (nat_lit 1)) = _
  all_goals rfl
theorem bitZ_eq (M i : Nat) : bitZ M i = Nat.testBit M i := by
  rw [bitZ_def]
  show Nat.beq ((M >>> i) &&& 1) 1 = (1 &&& (M >>> i) != 0)
  rw [Nat.and_comm 1 (M >>> i), Nat.and_one_is_mod]
  rcases Nat.mod_two_eq_zero_or_one (M >>> i) with e | e
  · rw [e]; rfl
  · rw [e]; rfl
theorem bitZ_or (M i j : Nat) : bitZ (Nat.lor M (Nat.shiftLeft 1 i)) j = (bitZ M j || decide (i = j)) := by
  rw [bitZ_eq, bitZ_eq]
  show Nat.testBit (M ||| (1 <<< i)) j = _
  rw [Nat.testBit_or, Nat.one_shiftLeft, Nat.testBit_two_pow]
noncomputable def aReZ_a0 :=
  fun (ih : List Nat → Nat → List Nat → Option (List Nat)) (f : Nat → AC) (i_1297 : Nat) (td_1298 : List Nat) (e_2 : Nat) (e_3 : List Nat) => ((ih (appQ (refsAC (f i_1297)) td_1298) (Nat.lor e_2 (Nat.shiftLeft (nat_lit 1) i_1297)) (i_1297 :: e_3)) : Option (List Nat))
noncomputable def aReZ_a1 :=
  fun (ih : List Nat → Nat → List Nat → Option (List Nat)) (f : Nat → AC) (i_1297 : Nat) (td_1298 : List Nat) (e_2 : Nat) (e_3 : List Nat) (N : Nat) => ((Bool.rec (motive := fun _ => Option (List Nat)) none (aReZ_a0 ih f i_1297 td_1298 e_2 e_3) (Nat.blt i_1297 N)) : Option (List Nat))
noncomputable def aReZ_a2 :=
  fun (ih : List Nat → Nat → List Nat → Option (List Nat)) (f : Nat → AC) (i_1297 : Nat) (td_1298 : List Nat) (e_2 : Nat) (e_3 : List Nat) (N : Nat) => ((Bool.rec (motive := fun _ => Option (List Nat)) (aReZ_a1 ih f i_1297 td_1298 e_2 e_3 N) (ih td_1298 e_2 e_3) (bitZ e_2 i_1297)) : Option (List Nat))
noncomputable def aReZ (N : Nat) (f : Nat → AC) : Nat → List Nat → Nat → List Nat → Option (List Nat) :=
  fun e_0 e_1 e_2 e_3 => Nat.rec (motive := fun _ => List Nat → Nat → List Nat → Option (List Nat)) (fun e_1 e_2 e_3 => none) (fun t_0 ih e_1 e_2 e_3 => (List.rec (motive := fun _ => Option (List Nat)) (some e_3) (fun i_1297 td_1298 _ => (aReZ_a2 ih f i_1297 td_1298 e_2 e_3 N)) e_1)) e_0 e_1 e_2 e_3
theorem aReZ_def (N : Nat) (f : Nat → AC) (e_0 : Nat) (e_1 : List Nat) (e_2 : Nat) (e_3 : List Nat) : aReZ N f e_0 e_1 e_2 e_3 = (match e_0, e_1, e_2, e_3 with
  | 0, _, _, _ => none
  | _ + 1, [], _, seen => some seen
  | n + 1, i :: td, M, seen => bif bitZ M i then aReZ N f n td M seen else bif Nat.blt i N then aReZ N f n (refsAC (f i) ++ td) (Nat.lor M (Nat.shiftLeft 1 i)) (i :: seen) else none) := by
  cases e_0 with
  | zero =>
    show none = _
    try simp only [iAddQ_eq, iMulQ_eq, iNegQ_eq, lenQ_eq, nthQ_eq, setQ_eq, appQ_eq, mapQ_eq, allQ_eq, anyQ_eq, dropQ_eq, takeQ_eq, revQ_eq, getDQ_eq, optLQ_eq, brecC]
    all_goals rfl
  | succ t_0 =>
    show (List.rec (motive := fun _ => Option (List Nat)) (some e_3) (fun i_1299 td_1300 _ => (Bool.rec (motive := fun _ => Option (List Nat)) (Bool.rec (motive := fun _ => Option (List Nat)) none (aReZ N f t_0 (appQ (refsAC (f i_1299)) td_1300) (Nat.lor e_2 (Nat.shiftLeft (nat_lit 1) i_1299)) (i_1299 :: e_3)) (Nat.blt i_1299 N)) (aReZ N f t_0 td_1300 e_2 e_3) (bitZ e_2 i_1299))) e_1) = _
    try simp only [iAddQ_eq, iMulQ_eq, iNegQ_eq, lenQ_eq, nthQ_eq, setQ_eq, appQ_eq, mapQ_eq, allQ_eq, anyQ_eq, dropQ_eq, takeQ_eq, revQ_eq, getDQ_eq, optLQ_eq, brecC]
    all_goals
      cases e_1 with
      | nil =>
        try dsimp only [cond_false, cond_true]
        all_goals rfl
      | cons y_1301 y_1302 =>
        try dsimp only [cond_false, cond_true]
        all_goals
          cases hq_2 : (bitZ e_2 y_1301) with
          | false =>
            try dsimp only [cond_false, cond_true]
            all_goals
              cases hq_3 : (Nat.blt y_1301 N) with
              | false =>
                try dsimp only [cond_false, cond_true]
                all_goals rfl
              | true =>
                try dsimp only [cond_false, cond_true]
                all_goals rfl
          | true =>
            try dsimp only [cond_false, cond_true]
            all_goals rfl
theorem aReZ_eq {A : AH} {f : Nat → AC} (hf : ∀ i, i < A.length → f i = A.getD i (.inl (0, []))) : ∀ (n : Nat) (td : List Nat) (M : Nat) (seen : List Nat), (∀ i, bitZ M i = memN i seen) → aReZ A.length f n td M seen = aRe A n td seen := by
  intro n
  induction n with
  | zero =>
    intro td M seen _
    rw [aReZ_def, aRe_def]
    try dsimp only
    try rfl
  | succ n ih =>
    intro td M seen hM
    cases td with
    | nil =>
      rw [aReZ_def, aRe_def]
      try dsimp only
      try rfl
    | cons i td =>
      rw [aReZ_def, aRe_def]
      try dsimp only
      rw [hM i]
      cases hm : memN i seen with
      | true => exact ih td M seen hM
      | false =>
        cases hb : Nat.blt i A.length with
        | true =>
          have hi := blt_iff.mp hb
          rw [List.getElem?_eq_getElem hi]
          simp only [cond_true, cond_false]
          rw [hf i hi, List.getD_eq_getElem?_getD, List.getElem?_eq_getElem hi]
          refine ih _ _ _ (fun j => ?_)
          rw [bitZ_or, hM j, memN_cons]
          cases h1 : Nat.beq j i with
          | true => rw [Nat.eq_of_beq_eq_true h1]; cases memN i seen <;> simp
          | false =>
            have hne : ¬ i = j := fun e => by rw [e, Nat.beq_refl] at h1; cases h1
            simp [hne]
        | false =>
          rw [List.getElem?_eq_none (by have := blt_f hb; omega)]
          rfl
noncomputable def aCutZ (A : AH) (as : List AV) : Option (List Nat) :=
  (Bool.rec (motive := fun _ => Option (List Nat)) (aCut A as) (Prod.rec (motive := fun _ => Option (List Nat)) (fun f_1306 x_1307 => (Option.rec (motive := fun _ => Option (List Nat)) none (fun I_1308 => (some (revQ I_1308))) (aReZ (lenQ A) f_1306 (nat_lit 100000) (refsL as) (nat_lit 0) []))) (balZ (lvZ A) A)) (Nat.ble (lenQ A) (Nat.shiftLeft (nat_lit 1) (lvZ A))))
theorem aCutZ_def (A : AH) (as : List AV) : aCutZ A as = (bif Nat.ble A.length (Nat.shiftLeft 1 (lvZ A)) then (match balZ (lvZ A) A with
  | (f, _) => (match aReZ A.length f 100000 (refsL as) 0 [] with
    | some I => some I.reverse
    | none => none)) else aCut A as) := by
  show (Bool.rec (motive := fun _ => Option (List Nat)) (aCut A as) (Prod.rec (motive := fun _ => Option (List Nat)) (fun f_1303 x_1304 => (Option.rec (motive := fun _ => Option (List Nat)) none (fun I_1305 => (some (revQ I_1305))) (aReZ (lenQ A) f_1303 (nat_lit 100000) (refsL as) (nat_lit 0) []))) (balZ (lvZ A) A)) (Nat.ble (lenQ A) (Nat.shiftLeft (nat_lit 1) (lvZ A)))) = _
  try simp only [iAddQ_eq, iMulQ_eq, iNegQ_eq, lenQ_eq, nthQ_eq, setQ_eq, appQ_eq, mapQ_eq, allQ_eq, anyQ_eq, dropQ_eq, takeQ_eq, revQ_eq, getDQ_eq, optLQ_eq, brecC]
  all_goals
    cases hq_1 : (Nat.ble A.length ((Nat.shiftLeft 1 ((lvZ A))))) with
    | false =>
      try dsimp only [cond_false, cond_true]
      all_goals rfl
    | true =>
      try dsimp only [cond_false, cond_true]
      all_goals
        cases hq_2 : (balZ ((lvZ A)) A) with
        | mk y_1309 y_1310 =>
          try dsimp only [cond_false, cond_true]
          all_goals
            cases hq_3 : (aReZ A.length y_1309 100000 ((refsL as)) 0 []) with
            | none =>
              try dsimp only [cond_false, cond_true]
              all_goals rfl
            | some y_1311 =>
              try dsimp only [cond_false, cond_true]
              all_goals rfl
theorem aCutZ_eq (A : AH) (as : List AV) : aCutZ A as = aCut A as := by
  rw [aCutZ_def]
  cases hc : Nat.ble A.length (Nat.shiftLeft 1 (lvZ A)) with
  | false => rfl
  | true =>
    have h3 := Nat.le_of_ble_eq_true hc
    rw [show Nat.shiftLeft 1 (lvZ A) = 2 ^ lvZ A from Nat.one_shiftLeft _] at h3
    obtain ⟨-, b2⟩ := balZ_ok (lvZ A) A
    cases hb : balZ (lvZ A) A with
    | mk f r =>
      rw [hb] at b2
      try dsimp only at b2
      simp only [cond_true]
      rw [aReZ_eq (fun i hi => b2 i (by omega)) 100000 (refsL as) 0 [] (fun i => by rw [bitZ_eq, Nat.zero_testBit, memN_nil])]
      rw [aCut_def]
      try rfl
end ZED
