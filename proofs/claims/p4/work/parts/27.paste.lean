/-! ===== the cells of a call cut out, and put back ===== -/
theorem rel2_of {α β : Type} {R : α → β → Prop} {l : List α} {r : List β} (hl : l.length = r.length) (h : ∀ (i : Nat) (a : α) (b : β), l[i]? = some a → r[i]? = some b → R a b) : rel2 R l r := by
  induction r generalizing l with
  | nil =>
    cases l with
    | nil => exact trivial
    | cons a l => cases hl
  | cons b r ih =>
    cases l with
    | nil => cases hl
    | cons a l => exact ⟨h 0 a b rfl rfl, ih (Nat.succ.inj hl) (fun i a b h1 h2 => h (i + 1) a b h1 h2)⟩
noncomputable def aSubH (A : AH) (I : List Nat) : AH :=
  (mapQ (fun i => (mpC (fun j => (ixA j I)) (getDQ A i (.inl ((nat_lit 0), []))))) I)
theorem aSubH_def (A : AH) (I : List Nat) : aSubH A I = I.map (fun i => mpC (fun j => ixA j I) (A.getD i (.inl (0, [])))) := by
  show (mapQ (fun i => (mpC (fun j => (ixA j I)) (getDQ A i (.inl ((nat_lit 0), []))))) I) = _
  try simp only [iAddQ_eq, iMulQ_eq, iNegQ_eq, lenQ_eq, nthQ_eq, setQ_eq, appQ_eq, mapQ_eq, allQ_eq, anyQ_eq, dropQ_eq, takeQ_eq, revQ_eq, getDQ_eq, optLQ_eq, brecC]
  all_goals rfl
noncomputable def pasteGo (I : List Nat) (n : Nat) (H1 : AH) : Nat → AH → AH :=
  fun e_0 e_1 => List.rec (motive := fun _ => Nat → AH) (fun e_0 => []) (fun h_0 t_0 ih e_0 => ((Bool.rec (motive := fun _ => _) h_0 (mpC (urA I n) (getDQ H1 (ixA e_0 I) h_0)) (memN e_0 I)) :: (ih (Nat.succ e_0)))) e_1 e_0
theorem pasteGo_def (I : List Nat) (n : Nat) (H1 : AH) (e_0 : Nat) (e_1 : AH) : pasteGo I n H1 e_0 e_1 = (match e_0, e_1 with
  | _, [] => []
  | i, c :: r => (bif memN i I then mpC (urA I n) (H1.getD (ixA i I) c) else c) :: pasteGo I n H1 (Nat.succ i) r) := by
  cases e_1 with
  | nil =>
    show [] = _
    try simp only [iAddQ_eq, iMulQ_eq, iNegQ_eq, lenQ_eq, nthQ_eq, setQ_eq, appQ_eq, mapQ_eq, allQ_eq, anyQ_eq, dropQ_eq, takeQ_eq, revQ_eq, getDQ_eq, optLQ_eq, brecC]
    all_goals rfl
  | cons h_0 t_0 =>
    show ((Bool.rec (motive := fun _ => _) h_0 (mpC (urA I n) (getDQ H1 (ixA e_0 I) h_0)) (memN e_0 I)) :: (pasteGo I n H1 (Nat.succ e_0) t_0)) = _
    try simp only [iAddQ_eq, iMulQ_eq, iNegQ_eq, lenQ_eq, nthQ_eq, setQ_eq, appQ_eq, mapQ_eq, allQ_eq, anyQ_eq, dropQ_eq, takeQ_eq, revQ_eq, getDQ_eq, optLQ_eq, brecC]
    all_goals rfl
noncomputable def aPaste (A : AH) (I : List Nat) (H1 : AH) : AH :=
  (appQ (pasteGo I (lenQ A) H1 (nat_lit 0) A) (mapQ (mpC (urA I (lenQ A))) (dropQ (lenQ I) H1)))
theorem aPaste_def (A : AH) (I : List Nat) (H1 : AH) : aPaste A I H1 = pasteGo I A.length H1 0 A ++ (H1.drop I.length).map (mpC (urA I A.length)) := by
  show (appQ (pasteGo I (lenQ A) H1 (nat_lit 0) A) (mapQ (mpC (urA I (lenQ A))) (dropQ (lenQ I) H1))) = _
  try simp only [iAddQ_eq, iMulQ_eq, iNegQ_eq, lenQ_eq, nthQ_eq, setQ_eq, appQ_eq, mapQ_eq, allQ_eq, anyQ_eq, dropQ_eq, takeQ_eq, revQ_eq, getDQ_eq, optLQ_eq, brecC]
  all_goals rfl
section PASTE
variable {ρ : Nat → Int} {σ : SH} {A : AH} {I : List Nat}
theorem ixA_get {i : Nat} {I : List Nat} (h : i ∈ I) : I[ixA i I]? = some i ∧ ixA i I < I.length := by
  induction I with
  | nil => cases h
  | cons a l ih =>
    rw [ixA_def]
    try dsimp only
    cases h1 : Nat.beq a i with
    | true => rw [Nat.eq_of_beq_eq_true h1]; exact ⟨rfl, Nat.zero_lt_succ _⟩
    | false =>
      have hne : ¬ i = a := fun e => by rw [e, Nat.beq_refl] at h1; cases h1
      have h2 := ih ((List.mem_cons.mp h).resolve_left hne)
      exact ⟨h2.1, Nat.succ_lt_succ h2.2⟩
theorem aSubH_ok (hA : rel2 (crel ρ) σ A) (hI : ∀ i ∈ I, i < σ.length) : rel2 (crel ρ) (subH σ I) (aSubH A I) := by
  have len := rel2_len hA
  refine rel2_of (by simp [subH, aSubH_def]) fun k a b h1 h2 => ?_
  unfold subH at h1
  rw [aSubH_def] at h2
  rw [List.getElem?_map] at h1 h2
  cases hk : I[k]? with
  | none => rw [hk] at h1; cases h1
  | some i =>
    rw [hk] at h1 h2
    cases h1
    cases h2
    have hi := hI i (List.mem_of_getElem? hk)
    have e1 : σ[i]? = some σ[i] := List.getElem?_eq_getElem hi
    obtain ⟨b, b1, b2⟩ := rel2_get' hA e1
    try dsimp only
    rw [List.getD_eq_getElem?_getD, List.getD_eq_getElem?_getD, e1, b1]
    exact rnC_ok b2
theorem urC_ok {n : Nat} {c : SC} {a : AC} (h : crel ρ c a) : crel ρ (urC I n c) (mpC (urA I n) a) := by
  match a, h with
  | .inl (ci, as), ⟨fs, e, h'⟩ => rw [mpC_def]; subst e; exact ⟨_, rfl, rel2_map (fun _ _ q => urV_ok q) h'⟩
  | .inr (k, .inl s), h => obtain ⟨k', l, e⟩ := arel_any h; subst e; exact h
  | .inr (k, .inr (.inl m)), ⟨l, e, h'⟩ => subst e; exact ⟨_, rfl, h'⟩
  | .inr (k, .inr (.inr q)), e =>
    rw [show c = .inr (k, .inr (.inr q)) from e]
    rw [mpC_def]
    show (Sum.inr (k, .inr (.inr (q.map (Option.map (urN I n))))) : SC) = .inr (k, .inr (.inr (q.map (Option.map (urA I n)))))
    rw [show urN I n = urA I n from funext fun j => urA_eq I n j]
theorem pasteGo_get (I : List Nat) (n : Nat) (H1 : AH) (A : AH) : ∀ (k i : Nat), (pasteGo I n H1 k A)[i]? = (A[i]?).map (fun c => bif memN (k + i) I then mpC (urA I n) (H1.getD (ixA (k + i) I) c) else c) := by
  induction A with
  | nil => intro k i; rfl
  | cons c r ih =>
    intro k i
    rw [pasteGo_def]
    try dsimp only
    cases i with
    | zero => rfl
    | succ i =>
      rw [List.getElem?_cons_succ, List.getElem?_cons_succ, ih]
      rw [show Nat.succ k + i = k + (i + 1) by omega]
theorem pasteGo_len (I : List Nat) (n : Nat) (H1 : AH) (A : AH) : ∀ k : Nat, (pasteGo I n H1 k A).length = A.length := by
  induction A with
  | nil => intro k; rfl
  | cons c r ih =>
    intro k
    rw [pasteGo_def]
    try dsimp only
    rw [List.length_cons, List.length_cons, ih]
theorem aPaste_ok {h1 : SH} {H1 : AH} (hA : rel2 (crel ρ) σ A) (hH : rel2 (crel ρ) h1 H1) (hI : I.length ≤ h1.length) : rel2 (crel ρ) (paste σ I h1) (aPaste A I H1) := by
  have len := rel2_len hA
  have len1 := rel2_len hH
  rw [aPaste_def]
  unfold paste
  refine rel2_app (rel2_of (by rw [List.length_mapIdx, pasteGo_len, len]) fun i a b q1 q2 => ?_) ?_
  · rw [List.getElem?_mapIdx] at q1
    rw [pasteGo_get, Nat.zero_add] at q2
    cases hc : σ[i]? with
    | none => rw [hc] at q1; cases q1
    | some c =>
      obtain ⟨d, d1, d2⟩ := rel2_get' hA hc
      rw [hc] at q1
      rw [d1] at q2
      cases q1
      cases q2
      try dsimp only
      cases hm : memN i I with
      | false => rw [if_neg (fun q => by rw [memN_iff.mpr q] at hm; cases hm)]; exact d2
      | true =>
        have hi := memN_iff.mp hm
        rw [if_pos hi, cond_true, ixA_eq]
        have hk := (ixA_get hi).2
        have e1 : h1[ixA i I]? = some (h1[ixA i I]'(by omega)) := List.getElem?_eq_getElem _
        obtain ⟨b, b1, b2⟩ := rel2_get' hH e1
        rw [List.getD_eq_getElem?_getD, List.getD_eq_getElem?_getD, e1, b1, ← len]
        exact urC_ok b2
  · rw [← len]
    exact rel2_map (fun _ _ q => urC_ok q) (rel2_drop hH _)
-- what is said of groups of cells
theorem arr_rn (I : List Nat) (c : SC) : arrI (rnC I c) = arrI c := by
  match c with
  | .inl q => rfl
  | .inr (k, .inl l) => rfl
  | .inr (k, .inr (.inl l)) => rfl
  | .inr (k, .inr (.inr l)) => rfl
theorem arr_ur (I : List Nat) (n : Nat) (c : SC) : arrI (urC I n c) = arrI c := by
  match c with
  | .inl q => rfl
  | .inr (k, .inl l) => rfl
  | .inr (k, .inr (.inl l)) => rfl
  | .inr (k, .inr (.inr l)) => rfl
noncomputable def allIn  : List Nat → List Nat → Bool :=
  fun e_0 e_1 => List.rec (motive := fun _ => List Nat → Bool) (fun e_1 => true) (fun h_0 t_0 ih e_1 => (Bool.rec (motive := fun _ => Bool) false (ih e_1) (memN h_0 e_1))) e_0 e_1
theorem allIn_def  (e_0 : List Nat) (e_1 : List Nat) : allIn  e_0 e_1 = (match e_0, e_1 with
  | [], _ => true
  | a :: r, I => bif memN a I then allIn r I else false) := by
  cases e_0 with
  | nil =>
    show true = _
    try simp only [iAddQ_eq, iMulQ_eq, iNegQ_eq, lenQ_eq, nthQ_eq, setQ_eq, appQ_eq, mapQ_eq, allQ_eq, anyQ_eq, dropQ_eq, takeQ_eq, revQ_eq, getDQ_eq, optLQ_eq, brecC]
    all_goals rfl
  | cons h_0 t_0 =>
    show (Bool.rec (motive := fun _ => Bool) false (allIn t_0 e_1) (memN h_0 e_1)) = _
    try simp only [iAddQ_eq, iMulQ_eq, iNegQ_eq, lenQ_eq, nthQ_eq, setQ_eq, appQ_eq, mapQ_eq, allQ_eq, anyQ_eq, dropQ_eq, takeQ_eq, revQ_eq, getDQ_eq, optLQ_eq, brecC]
    all_goals
      cases hq_1 : (memN h_0 e_1) with
      | false =>
        try dsimp only [cond_false, cond_true]
        all_goals rfl
      | true =>
        try dsimp only [cond_false, cond_true]
        all_goals rfl
noncomputable def noneIn  : List Nat → List Nat → Nat → Bool :=
  fun e_0 e_1 e_2 => List.rec (motive := fun _ => List Nat → Nat → Bool) (fun e_1 e_2 => true) (fun h_0 t_0 ih e_1 e_2 => (Bool.rec (motive := fun _ => Bool) (Bool.rec (motive := fun _ => Bool) false (ih e_1 e_2) (Nat.blt h_0 e_2)) false (memN h_0 e_1))) e_0 e_1 e_2
theorem noneIn_def  (e_0 : List Nat) (e_1 : List Nat) (e_2 : Nat) : noneIn  e_0 e_1 e_2 = (match e_0, e_1, e_2 with
  | [], _, _ => true
  | a :: r, I, n => bif memN a I then false else bif Nat.blt a n then noneIn r I n else false) := by
  cases e_0 with
  | nil =>
    show true = _
    try simp only [iAddQ_eq, iMulQ_eq, iNegQ_eq, lenQ_eq, nthQ_eq, setQ_eq, appQ_eq, mapQ_eq, allQ_eq, anyQ_eq, dropQ_eq, takeQ_eq, revQ_eq, getDQ_eq, optLQ_eq, brecC]
    all_goals rfl
  | cons h_0 t_0 =>
    show (Bool.rec (motive := fun _ => Bool) (Bool.rec (motive := fun _ => Bool) false (noneIn t_0 e_1 e_2) (Nat.blt h_0 e_2)) false (memN h_0 e_1)) = _
    try simp only [iAddQ_eq, iMulQ_eq, iNegQ_eq, lenQ_eq, nthQ_eq, setQ_eq, appQ_eq, mapQ_eq, allQ_eq, anyQ_eq, dropQ_eq, takeQ_eq, revQ_eq, getDQ_eq, optLQ_eq, brecC]
    all_goals
      cases hq_1 : (memN h_0 e_1) with
      | false =>
        try dsimp only [cond_false, cond_true]
        all_goals
          cases hq_2 : (Nat.blt h_0 e_2) with
          | false =>
            try dsimp only [cond_false, cond_true]
            all_goals rfl
          | true =>
            try dsimp only [cond_false, cond_true]
            all_goals rfl
      | true =>
        try dsimp only [cond_false, cond_true]
        all_goals rfl
theorem allIn_ok {l I : List Nat} (h : allIn l I = true) : ∀ a ∈ l, a ∈ I := by
  induction l with
  | nil => intro a ha; cases ha
  | cons b r ih =>
    rw [allIn_def] at h
    try dsimp only at h
    cases hm : memN b I with
    | false => rw [hm] at h; cases h
    | true =>
      rw [hm] at h
      intro a ha
      rcases List.mem_cons.mp ha with rfl | ha
      · exact memN_iff.mp hm
      · exact ih h a ha
theorem noneIn_ok {l I : List Nat} {n : Nat} (h : noneIn l I n = true) : ∀ a ∈ l, a ∉ I ∧ a < n := by
  induction l with
  | nil => intro a ha; cases ha
  | cons b r ih =>
    rw [noneIn_def] at h
    try dsimp only at h
    cases hm : memN b I with
    | true => rw [hm] at h; cases h
    | false =>
      rw [hm] at h
      simp only [cond_false] at h
      cases hb : Nat.blt b n with
      | false => rw [hb] at h; cases h
      | true =>
        rw [hb] at h
        intro a ha
        rcases List.mem_cons.mp ha with rfl | ha
        · exact ⟨fun q => (by rw [memN_iff.mpr q] at hm; cases hm), blt_iff.mp hb⟩
        · exact ih h a ha
noncomputable def prIn (I : List Nat) : List PD → List PD :=
  fun e_0 => List.rec (motive := fun _ => List PD) [] (fun h_0 t_0 ih => (Bool.rec (motive := fun _ => List PD) (ih) ((h_0.1, (mapQ (fun j => (ixA j I)) h_0.2.1), h_0.2.2) :: (ih)) (allIn h_0.2.1 I))) e_0 
theorem prIn_def (I : List Nat) (e_0 : List PD) : prIn I e_0 = (match e_0 with
  | [] => []
  | p :: r => bif allIn p.2.1 I then (p.1, p.2.1.map (fun j => ixA j I), p.2.2) :: prIn I r else prIn I r) := by
  cases e_0 with
  | nil =>
    show [] = _
    try simp only [iAddQ_eq, iMulQ_eq, iNegQ_eq, lenQ_eq, nthQ_eq, setQ_eq, appQ_eq, mapQ_eq, allQ_eq, anyQ_eq, dropQ_eq, takeQ_eq, revQ_eq, getDQ_eq, optLQ_eq, brecC]
    all_goals rfl
  | cons h_0 t_0 =>
    show (Bool.rec (motive := fun _ => List PD) (prIn I t_0) ((h_0.1, (mapQ (fun j => (ixA j I)) h_0.2.1), h_0.2.2) :: (prIn I t_0)) (allIn h_0.2.1 I)) = _
    try simp only [iAddQ_eq, iMulQ_eq, iNegQ_eq, lenQ_eq, nthQ_eq, setQ_eq, appQ_eq, mapQ_eq, allQ_eq, anyQ_eq, dropQ_eq, takeQ_eq, revQ_eq, getDQ_eq, optLQ_eq, brecC]
    all_goals
      cases hq_1 : (allIn h_0.2.1 I) with
      | false =>
        try dsimp only [cond_false, cond_true]
        all_goals rfl
      | true =>
        try dsimp only [cond_false, cond_true]
        all_goals rfl
noncomputable def prKeep (I : List Nat) (n : Nat) : List PD → List PD :=
  fun e_0 => List.rec (motive := fun _ => List PD) [] (fun h_0 t_0 ih => (Bool.rec (motive := fun _ => List PD) (ih) (h_0 :: (ih)) (noneIn h_0.2.1 I n))) e_0 
theorem prKeep_def (I : List Nat) (n : Nat) (e_0 : List PD) : prKeep I n e_0 = (match e_0 with
  | [] => []
  | p :: r => bif noneIn p.2.1 I n then p :: prKeep I n r else prKeep I n r) := by
  cases e_0 with
  | nil =>
    show [] = _
    try simp only [iAddQ_eq, iMulQ_eq, iNegQ_eq, lenQ_eq, nthQ_eq, setQ_eq, appQ_eq, mapQ_eq, allQ_eq, anyQ_eq, dropQ_eq, takeQ_eq, revQ_eq, getDQ_eq, optLQ_eq, brecC]
    all_goals rfl
  | cons h_0 t_0 =>
    show (Bool.rec (motive := fun _ => List PD) (prKeep I n t_0) (h_0 :: (prKeep I n t_0)) (noneIn h_0.2.1 I n)) = _
    try simp only [iAddQ_eq, iMulQ_eq, iNegQ_eq, lenQ_eq, nthQ_eq, setQ_eq, appQ_eq, mapQ_eq, allQ_eq, anyQ_eq, dropQ_eq, takeQ_eq, revQ_eq, getDQ_eq, optLQ_eq, brecC]
    all_goals
      cases hq_1 : (noneIn h_0.2.1 I n) with
      | false =>
        try dsimp only [cond_false, cond_true]
        all_goals rfl
      | true =>
        try dsimp only [cond_false, cond_true]
        all_goals rfl
noncomputable def prBack (I : List Nat) (n m : Nat) : List PD → List PD :=
  fun e_0 => List.rec (motive := fun _ => List PD) [] (fun h_0 t_0 ih => (Bool.rec (motive := fun _ => List PD) (ih) ((h_0.1, (mapQ (urA I n) h_0.2.1), h_0.2.2) :: (ih)) (allQ (fun i => (Nat.blt i m)) h_0.2.1))) e_0 
theorem prBack_def (I : List Nat) (n m : Nat) (e_0 : List PD) : prBack I n m e_0 = (match e_0 with
  | [] => []
  | p :: r => bif p.2.1.all (fun i => Nat.blt i m) then (p.1, p.2.1.map (urA I n), p.2.2) :: prBack I n m r else prBack I n m r) := by
  cases e_0 with
  | nil =>
    show [] = _
    try simp only [iAddQ_eq, iMulQ_eq, iNegQ_eq, lenQ_eq, nthQ_eq, setQ_eq, appQ_eq, mapQ_eq, allQ_eq, anyQ_eq, dropQ_eq, takeQ_eq, revQ_eq, getDQ_eq, optLQ_eq, brecC]
    all_goals rfl
  | cons h_0 t_0 =>
    show (Bool.rec (motive := fun _ => List PD) (prBack I n m t_0) ((h_0.1, (mapQ (urA I n) h_0.2.1), h_0.2.2) :: (prBack I n m t_0)) (allQ (fun i => (Nat.blt i m)) h_0.2.1)) = _
    try simp only [iAddQ_eq, iMulQ_eq, iNegQ_eq, lenQ_eq, nthQ_eq, setQ_eq, appQ_eq, mapQ_eq, allQ_eq, anyQ_eq, dropQ_eq, takeQ_eq, revQ_eq, getDQ_eq, optLQ_eq, brecC]
    all_goals
      cases hq_1 : (h_0.2.1.all ((fun i => (Nat.blt i m)))) with
      | false =>
        try dsimp only [cond_false, cond_true]
        all_goals rfl
      | true =>
        try dsimp only [cond_false, cond_true]
        all_goals rfl
theorem prIn_mem {I : List Nat} {pr : List PD} {p : PD} (h : p ∈ prIn I pr) : ∃ q ∈ pr, allIn q.2.1 I = true ∧ p = (q.1, q.2.1.map (fun j => ixA j I), q.2.2) := by
  induction pr with
  | nil => cases h
  | cons a r ih =>
    rw [prIn_def] at h
    try dsimp only at h
    cases hm : allIn a.2.1 I with
    | true =>
      rw [hm] at h
      rcases List.mem_cons.mp h with rfl | h
      · exact ⟨a, List.mem_cons_self, hm, rfl⟩
      · obtain ⟨q, q1, q2⟩ := ih h; exact ⟨q, List.mem_cons_of_mem _ q1, q2⟩
    | false => rw [hm] at h; obtain ⟨q, q1, q2⟩ := ih h; exact ⟨q, List.mem_cons_of_mem _ q1, q2⟩
theorem prKeep_mem {I : List Nat} {n : Nat} {pr : List PD} {p : PD} (h : p ∈ prKeep I n pr) : p ∈ pr ∧ noneIn p.2.1 I n = true := by
  induction pr with
  | nil => cases h
  | cons a r ih =>
    rw [prKeep_def] at h
    try dsimp only at h
    cases hm : noneIn a.2.1 I n with
    | true =>
      rw [hm] at h
      rcases List.mem_cons.mp h with rfl | h
      · exact ⟨List.mem_cons_self, hm⟩
      · exact ⟨List.mem_cons_of_mem _ (ih h).1, (ih h).2⟩
    | false => rw [hm] at h; exact ⟨List.mem_cons_of_mem _ (ih h).1, (ih h).2⟩
theorem prBack_mem {I : List Nat} {n m : Nat} {pr : List PD} {p : PD} (h : p ∈ prBack I n m pr) : ∃ q ∈ pr, (∀ i ∈ q.2.1, i < m) ∧ p = (q.1, q.2.1.map (urA I n), q.2.2) := by
  induction pr with
  | nil => cases h
  | cons a r ih =>
    rw [prBack_def] at h
    try dsimp only at h
    cases hm : a.2.1.all (fun i => Nat.blt i m) with
    | true =>
      rw [hm] at h
      rcases List.mem_cons.mp h with rfl | h
      · exact ⟨a, List.mem_cons_self, fun i hi => blt_iff.mp (List.all_eq_true.mp hm i hi), rfl⟩
      · obtain ⟨q, q1, q2⟩ := ih h; exact ⟨q, List.mem_cons_of_mem _ q1, q2⟩
    | false => rw [hm] at h; obtain ⟨q, q1, q2⟩ := ih h; exact ⟨q, List.mem_cons_of_mem _ q1, q2⟩
variable {PP : Nat → List (List Int32) → List Int → Prop} {pr : List PD}
theorem prIn_ok (h : prOk PP ρ σ pr) : prOk PP ρ (subH σ I) (prIn I pr) := fun p hp => by
  obtain ⟨q, q1, q2, rfl⟩ := prIn_mem hp
  have h3 := h q q1
  have e : (q.2.1.map (fun j => ixA j I)).map (fun i => arrI ((subH σ I).getD i (.inl (0, [])))) = q.2.1.map (fun i => arrI (σ.getD i (.inl (0, [])))) := by
    rw [List.map_map]
    refine List.map_congr_left fun i hi => ?_
    have h4 := ixA_get (allIn_ok q2 i hi)
    show arrI ((subH σ I).getD (ixA i I) _) = _
    unfold subH
    rw [List.getD_eq_getElem?_getD, List.getElem?_map, h4.1]
    exact arr_rn I _
  show PP q.1 _ _
  rw [e]
  exact h3
theorem paste_out {h1 : SH} {i : Nat} (hi : i < σ.length) (hn : i ∉ I) : (paste σ I h1)[i]? = σ[i]? := by
  unfold paste
  rw [List.getElem?_append_left (by rw [List.length_mapIdx]; exact hi), List.getElem?_mapIdx]
  rw [List.getElem?_eq_getElem hi, Option.map_some, if_neg hn]
theorem nd_ix {I : List Nat} (h : va_nd I = true) {k j : Nat} (hk : I[k]? = some j) : ixA j I = k :=
  va_nd_inj I h _ _ j (ixA_get (List.mem_of_getElem? hk)).1 hk
theorem paste_in {h1 : SH} {k : Nat} (hnd : va_nd I = true) (hI : ∀ i ∈ I, i < σ.length) (hl : I.length ≤ h1.length) (hk : k < h1.length) : ∃ c, h1[k]? = some c ∧ (paste σ I h1)[urA I σ.length k]? = some (urC I σ.length c) := by
  refine ⟨h1[k], List.getElem?_eq_getElem hk, ?_⟩
  rw [urA_def]
  cases hb : Nat.blt k I.length with
  | true =>
    have hk' := blt_iff.mp hb
    have e1 : I[k]? = some I[k] := List.getElem?_eq_getElem hk'
    have hi := hI _ (List.mem_of_getElem? e1)
    rw [cond_true, List.getD_eq_getElem?_getD, e1]
    show (paste σ I h1)[I[k]]? = _
    unfold paste
    rw [List.getElem?_append_left (by rw [List.length_mapIdx]; exact hi), List.getElem?_mapIdx, List.getElem?_eq_getElem hi, Option.map_some, if_pos (List.mem_of_getElem? e1), ixA_eq, nd_ix hnd e1, List.getD_eq_getElem?_getD, List.getElem?_eq_getElem hk]
    rfl
  | false =>
    have hk' := blt_f hb
    rw [cond_false]
    show (paste σ I h1)[σ.length + (k - I.length)]? = _
    unfold paste
    rw [List.getElem?_append_right (by rw [List.length_mapIdx]; omega), List.length_mapIdx, List.getElem?_map, List.getElem?_drop]
    rw [show I.length + (σ.length + (k - I.length) - σ.length) = k by omega, List.getElem?_eq_getElem hk]
    rfl
theorem prOut_ok {h1 : SH} {pr2 : List PD} (hnd : va_nd I = true) (hI : ∀ i ∈ I, i < σ.length) (hl : I.length ≤ h1.length) (h : prOk PP ρ σ pr) (h2 : prOk PP ρ h1 pr2) : prOk PP ρ (paste σ I h1) (prKeep I σ.length pr ++ prBack I σ.length h1.length pr2) := fun p hp => by
  rcases List.mem_append.mp hp with hp | hp
  · obtain ⟨q1, q2⟩ := prKeep_mem hp
    have h3 := h p q1
    have h4 := noneIn_ok q2
    have e : p.2.1.map (fun i => arrI ((paste σ I h1).getD i (.inl (0, [])))) = p.2.1.map (fun i => arrI (σ.getD i (.inl (0, [])))) := List.map_congr_left fun i hi => by
      rw [List.getD_eq_getElem?_getD, List.getD_eq_getElem?_getD, paste_out (h4 i hi).2 (h4 i hi).1]
    rw [e]
    exact h3
  · obtain ⟨q, q1, q2, rfl⟩ := prBack_mem hp
    have h3 := h2 q q1
    have e : (q.2.1.map (urA I σ.length)).map (fun i => arrI ((paste σ I h1).getD i (.inl (0, [])))) = q.2.1.map (fun i => arrI (h1.getD i (.inl (0, [])))) := by
      rw [List.map_map]
      refine List.map_congr_left fun i hi => ?_
      obtain ⟨c, c1, c2⟩ := paste_in hnd hI hl (q2 i hi)
      show arrI ((paste σ I h1).getD (urA I σ.length i) _) = _
      rw [List.getD_eq_getElem?_getD, List.getD_eq_getElem?_getD, c1, c2]
      exact arr_ur I _ c
    show PP q.1 _ _
    rw [e]
    exact h3
end PASTE
