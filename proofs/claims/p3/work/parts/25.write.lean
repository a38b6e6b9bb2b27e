/-! ===== writes, new cells ===== -/
noncomputable def isRef (a : AV) : Bool :=
  (Sum.rec (motive := fun _ => Bool) (fun x_947 => false) (fun x_948 => (Sum.rec (motive := fun _ => Bool) (fun x_949 => true) (fun x_950 => false) x_948)) a)
theorem isRef_def (a : AV) : isRef a = (match a with
  | .inr (.inl _) => true
  | _ => false) := by
  show (Sum.rec (motive := fun _ => Bool) (fun x_943 => false) (fun x_944 => (Sum.rec (motive := fun _ => Bool) (fun x_945 => true) (fun x_946 => false) x_944)) a) = _
  all_goals
    cases a with
    | inl y_951 =>
      try dsimp only [cond_false, cond_true]
      all_goals rfl
    | inr y_952 =>
      try dsimp only [cond_false, cond_true]
      all_goals
        cases y_952 with
        | inl y_953 =>
          try dsimp only [cond_false, cond_true]
          all_goals rfl
        | inr y_954 =>
          try dsimp only [cond_false, cond_true]
          all_goals rfl
noncomputable def isInt_a0 :=
  fun (x_961 : Bool) => ((Bool.rec (motive := fun _ => Bool) true false x_961) : Bool)
noncomputable def isInt (a : AV) : Bool :=
  (Sum.rec (motive := fun _ => Bool) (fun x_959 => (Prod.rec (motive := fun _ => Bool) (fun x_961 x_962 => (isInt_a0 x_961)) x_959)) (fun x_960 => false) a)
theorem isInt_def (a : AV) : isInt a = (match a with
  | .inl (false, _) => true
  | _ => false) := by
  show (Sum.rec (motive := fun _ => Bool) (fun x_955 => (Prod.rec (motive := fun _ => Bool) (fun x_957 x_958 => (Bool.rec (motive := fun _ => Bool) true false x_957)) x_955)) (fun x_956 => false) a) = _
  try simp only [iAddQ_eq, iMulQ_eq, iNegQ_eq, lenQ_eq, nthQ_eq, setQ_eq, appQ_eq, mapQ_eq, allQ_eq, anyQ_eq, dropQ_eq, takeQ_eq, revQ_eq, getDQ_eq, optLQ_eq, brecC]
  all_goals
    cases a with
    | inl y_963 =>
      try dsimp only [cond_false, cond_true]
      all_goals
        cases y_963 with
        | mk y_964 y_965 =>
          try dsimp only [cond_false, cond_true]
          all_goals
            cases y_964 with
            | false =>
              try dsimp only [cond_false, cond_true]
              all_goals rfl
            | true =>
              try dsimp only [cond_false, cond_true]
              all_goals rfl
    | inr y_966 =>
      try dsimp only [cond_false, cond_true]
      all_goals rfl
noncomputable def fitA (ty : FieldType) (a : AV) : Bool := match ty with
  | .int => isInt a
  | .object _ => isRef a
  | .array _ => isRef a
  | _ => false
theorem fitA_ok {ρ : Nat → Int} {ty : FieldType} {v : Value} {a : AV} (h : vrel ρ v a) (hf : fitA ty a = true) : fitF ty v = true := by
  have hi : isInt a = true → ∃ x, v = .int x := fun q => by
    match a, h, q with
    | .inl (false, e), h, _ => obtain ⟨x, e1, _⟩ := h; exact ⟨x, e1⟩
  have hr : isRef a = true → v = .null ∨ ∃ i, v = .ref i := fun q => by
    match a, h, q with
    | .inr (.inl (some i)), h, _ => exact Or.inr ⟨i, h⟩
    | .inr (.inl none), h, _ => exact Or.inl h
  cases ty with
  | int => obtain ⟨x, e⟩ := hi hf; subst e; rfl
  | object c => rcases hr hf with e | ⟨i, e⟩ <;> subst e <;> rfl
  | array c => rcases hr hf with e | ⟨i, e⟩ <;> subst e <;> rfl
  | _ => cases hf
-- what is said of groups of int arrays: a kind, the cells
abbrev PD : Type := Nat × List Nat × List Ln
noncomputable def arrI (c : SC) : List Int32 := match c with
  | .inr (_, .inl l) => l
  | _ => []
noncomputable def prOk (PP : Nat → List (List Int32) → List Int → Prop) (ρ : Nat → Int) (σ : SH) (pr : List PD) : Prop := ∀ p ∈ pr, PP p.1 (p.2.1.map (fun i => arrI (σ.getD i (.inl (0, []))))) (p.2.2.map (ev ρ))
noncomputable def memN_a0 :=
  fun (ih : Bool) (q : Nat) (h_0 : Nat) => ((Bool.rec (motive := fun _ => Bool) (ih) true (Nat.beq q h_0)) : Bool)
noncomputable def memN (q : Nat) : List Nat → Bool :=
  fun e_0 => List.rec (motive := fun _ => Bool) false (fun h_0 t_0 ih => (memN_a0 ih q h_0)) e_0 
theorem memN_def (q : Nat) (e_0 : List Nat) : memN q e_0 = (match e_0 with
  | [] => false
  | a :: r => bif Nat.beq q a then true else memN q r) := by
  cases e_0 with
  | nil =>
    show false = _
    try simp only [iAddQ_eq, iMulQ_eq, iNegQ_eq, lenQ_eq, nthQ_eq, setQ_eq, appQ_eq, mapQ_eq, allQ_eq, anyQ_eq, dropQ_eq, takeQ_eq, revQ_eq, getDQ_eq, optLQ_eq, brecC]
    all_goals rfl
  | cons h_0 t_0 =>
    show (Bool.rec (motive := fun _ => Bool) (memN q t_0) true (Nat.beq q h_0)) = _
    try simp only [iAddQ_eq, iMulQ_eq, iNegQ_eq, lenQ_eq, nthQ_eq, setQ_eq, appQ_eq, mapQ_eq, allQ_eq, anyQ_eq, dropQ_eq, takeQ_eq, revQ_eq, getDQ_eq, optLQ_eq, brecC]
    all_goals
      cases hq_1 : (Nat.beq q h_0) with
      | false =>
        try dsimp only [cond_false, cond_true]
        all_goals rfl
      | true =>
        try dsimp only [cond_false, cond_true]
        all_goals rfl
theorem memN_iff {q : Nat} {l : List Nat} : memN q l = true ↔ q ∈ l := by
  induction l with
  | nil => exact ⟨fun h => (by cases h), fun h => (by cases h)⟩
  | cons a r ih =>
    rw [memN_def]
    show (bif Nat.beq q a then true else memN q r) = true ↔ _
    cases h : Nat.beq q a with
    | true => exact ⟨fun _ => Nat.eq_of_beq_eq_true h ▸ List.mem_cons_self, fun _ => rfl⟩
    | false =>
      have hne : ¬ q = a := fun e => by rw [e, Nat.beq_refl] at h; cases h
      rw [cond_false, ih, List.mem_cons]
      exact ⟨Or.inr, fun o => o.elim (fun e => absurd e hne) id⟩
noncomputable def prDel_a0 :=
  fun (h_0 : PD) (ih : List PD) (q : Nat) => ((Bool.rec (motive := fun _ => List PD) (h_0 :: (ih)) (ih) (memN q h_0.2.1)) : List PD)
noncomputable def prDel (q : Nat) : List PD → List PD :=
  fun e_0 => List.rec (motive := fun _ => List PD) [] (fun h_0 t_0 ih => (prDel_a0 h_0 ih q)) e_0 
theorem prDel_def (q : Nat) (e_0 : List PD) : prDel q e_0 = (match e_0 with
  | [] => []
  | p :: r => bif memN q p.2.1 then prDel q r else p :: prDel q r) := by
  cases e_0 with
  | nil =>
    show [] = _
    try simp only [iAddQ_eq, iMulQ_eq, iNegQ_eq, lenQ_eq, nthQ_eq, setQ_eq, appQ_eq, mapQ_eq, allQ_eq, anyQ_eq, dropQ_eq, takeQ_eq, revQ_eq, getDQ_eq, optLQ_eq, brecC]
    all_goals rfl
  | cons h_0 t_0 =>
    show (Bool.rec (motive := fun _ => List PD) (h_0 :: (prDel q t_0)) (prDel q t_0) (memN q h_0.2.1)) = _
    try simp only [iAddQ_eq, iMulQ_eq, iNegQ_eq, lenQ_eq, nthQ_eq, setQ_eq, appQ_eq, mapQ_eq, allQ_eq, anyQ_eq, dropQ_eq, takeQ_eq, revQ_eq, getDQ_eq, optLQ_eq, brecC]
    all_goals
      cases hq_1 : (memN q h_0.2.1) with
      | false =>
        try dsimp only [cond_false, cond_true]
        all_goals rfl
      | true =>
        try dsimp only [cond_false, cond_true]
        all_goals rfl
theorem prDel_mem {q : Nat} {pr : List PD} {p : PD} (h : p ∈ prDel q pr) : p ∈ pr ∧ q ∉ p.2.1 := by
  induction pr with
  | nil => cases h
  | cons a r ih =>
    rw [prDel_def] at h
    try dsimp only at h
    cases h1 : memN q a.2.1 with
    | true => rw [h1] at h; exact ⟨List.mem_cons_of_mem _ (ih h).1, (ih h).2⟩
    | false =>
      rw [h1] at h
      rcases List.mem_cons.mp h with rfl | h
      · exact ⟨List.mem_cons_self, fun m => by rw [memN_iff.mpr m] at h1; cases h1⟩
      · exact ⟨List.mem_cons_of_mem _ (ih h).1, (ih h).2⟩
theorem prOk_set {ρ : Nat → Int} {PP : Nat → List (List Int32) → List Int → Prop} {σ : SH} {pr : List PD} (h : prOk PP ρ σ pr) (q : Nat) (c : SC) : prOk PP ρ (σ.set q c) (prDel q pr) := fun p hp => by
  obtain ⟨h1, h2⟩ := prDel_mem hp
  have h3 := h p h1
  have e : p.2.1.map (fun i => arrI ((σ.set q c).getD i (.inl (0, [])))) = p.2.1.map (fun i => arrI (σ.getD i (.inl (0, [])))) := List.map_congr_left fun i hi => by
    have hne : q ≠ i := fun e => by
      subst e
      exact h2 hi
    rw [List.getD_eq_getElem?_getD, List.getD_eq_getElem?_getD, List.getElem?_set_ne hne]
  rw [e]
  exact h3
/-- the cell put there is no int array of it: nothing said is lost -/
theorem prOk_same {ρ : Nat → Int} {PP : Nat → List (List Int32) → List Int → Prop} {σ : SH} {pr : List PD} (h : prOk PP ρ σ pr) {q : Nat} {c c' : SC} (hq : σ[q]? = some c) (hc : arrI c' = arrI c) : prOk PP ρ (σ.set q c') pr := fun p hp => by
  have h3 := h p hp
  have e : p.2.1.map (fun i => arrI ((σ.set q c').getD i (.inl (0, [])))) = p.2.1.map (fun i => arrI (σ.getD i (.inl (0, [])))) := List.map_congr_left fun i _ => by
    rw [List.getD_eq_getElem?_getD, List.getD_eq_getElem?_getD]
    by_cases hi : q = i
    · subst hi
      have hl := (List.getElem?_eq_some_iff.mp hq).1
      rw [List.getElem?_set_self hl, hq]
      exact hc
    · rw [List.getElem?_set_ne hi]
  rw [e]
  exact h3
theorem prOk_app {ρ : Nat → Int} {PP : Nat → List (List Int32) → List Int → Prop} {σ : SH} {pr : List PD} (h : prOk PP ρ σ pr) (hb : ∀ p ∈ pr, ∀ i ∈ p.2.1, i < σ.length) (τ : SH) : prOk PP ρ (σ ++ τ) pr := fun p hp => by
  have h3 := h p hp
  have e : p.2.1.map (fun i => arrI ((σ ++ τ).getD i (.inl (0, [])))) = p.2.1.map (fun i => arrI (σ.getD i (.inl (0, [])))) := List.map_congr_left fun i hi => by
    rw [List.getD_eq_getElem?_getD, List.getD_eq_getElem?_getD, List.getElem?_append_left (hb p hp i hi)]
  rw [e]
  exact h3
noncomputable def prB (n : Nat) (pr : List PD) : Bool := pr.all (fun p => p.2.1.all (fun i => Nat.blt i n))
theorem prB_ok {n : Nat} {pr : List PD} (h : prB n pr = true) : ∀ p ∈ pr, ∀ i ∈ p.2.1, i < n := fun p hp i hi => blt_iff.mp (List.all_eq_true.mp (List.all_eq_true.mp h p hp) i hi)
/-- a program from place o on: so many steps of it -/
noncomputable def fp9 (o : Nat) (r : List Ln) (a b : Nat) : Bool := bif Nat.blt b o then true else bif Nat.ble (Nat.add o 240) a then true else match r with
  | (.ofNat m, []) :: _ => Nat.ble (Nat.add o (Nat.mul 4 m)) a
  | _ => false
/-- slots from place o on: so many of them -/
noncomputable def fp17 (o : Nat) (r : List Ln) (a b : Nat) : Bool := bif Nat.blt b o then true else bif Nat.ble (Nat.add o 24) a then true else match r with
  | (.ofNat m, []) :: _ => Nat.ble (Nat.add o (Nat.mul 3 m)) a
  | _ => false
/-- places a .. b that kind k doesn't speak of -/
noncomputable def fpOut (k : Nat) (ns : List Ln) (a b : Nat) : Bool := match k with
  | 1 => bif Nat.blt b 200 then true else Nat.ble 680 a
  | 2 => bif Nat.blt b 792 then true else Nat.ble 832 a
  | 3 => bif Nat.blt b 42 then true else bif (bif Nat.ble 43 a then Nat.blt b 82 else false) then true else bif (bif Nat.ble 83 a then Nat.blt b 122 else false) then true else bif (bif Nat.ble 123 a then Nat.blt b 162 else false) then true else Nat.ble 163 a
  | _ => bif Nat.blt k 1000 then (match ns with
    | [] => bif Nat.ble 600 k then (bif Nat.blt b 792 then true else bif Nat.ble 832 a then true else bif Nat.ble (Nat.add 792 (Nat.mul 5 (Nat.sub k 600))) a then Nat.ble b (Nat.add 796 (Nat.mul 5 (Nat.sub k 600))) else false) else false
    | (.ofNat c, []) :: r => bif Nat.beq k 4 then Nat.ble c a else bif Nat.beq k 5 then Nat.ble c a else bif Nat.beq k 8 then Nat.ble c a else bif Nat.beq k 9 then fp9 c r a b else bif Nat.beq k 16 then Nat.ble c a else bif Nat.beq k 17 then fp17 c r a b else bif Nat.beq k 19 then (bif Nat.beq a c then Nat.beq b c else false) else false
    | _ => false) else bif Nat.blt k 2000 then (bif Nat.beq a (Nat.sub k 1000) then Nat.beq b a else false) else bif Nat.blt b 200 then true else bif Nat.ble 680 a then true else bif Nat.ble (Nat.add 200 (Nat.mul 4 (Nat.sub k 2000))) a then Nat.ble b (Nat.add 203 (Nat.mul 4 (Nat.sub k 2000))) else false
/-- rows after a store at place j in some of them -/
noncomputable def updL (j : Nat) (v : Int32) : List (List Int32) → List (List Int32) → Prop
  | [], [] => True
  | x :: r, y :: s => (y = x ∨ y = x.set j v) ∧ updL j v r s
  | _, _ => False
theorem updL_map {j : Nat} {v : Int32} {f g : Nat → List Int32} (h : ∀ i, g i = f i ∨ g i = (f i).set j v) : ∀ L : List Nat, updL j v (L.map f) (L.map g)
  | [] => True.intro
  | i :: r => ⟨h i, updL_map h r⟩
/-- kind 7: the element at a place -/
noncomputable def LDok (PP : Nat → List (List Int32) → List Int → Prop) : Prop := ∀ (l : List Int32) (i v : Int), PP 7 [l] [i, v] → (l.getD i.toNat 0).toInt = v
noncomputable def FPok (PP : Nat → List (List Int32) → List Int → Prop) : Prop := LDok PP ∧ ∀ (k a b : Nat) (ls ls' : List (List Int32)) (ns : List Ln) (ρ : Nat → Int) (i : Nat) (v : Int32), fpOut k ns a b = true → a ≤ i → i ≤ b → updL i v ls ls' → PP k ls (ns.map (ev ρ)) → PP k ls' (ns.map (ev ρ))
noncomputable def prDelR_a0 :=
  fun (ih : List PD) (h_0 : PD) (a : Nat) (b : Nat) (q : Nat) => ((Bool.rec (motive := fun _ => List PD) (ih) (h_0 :: (ih)) (Bool.rec (motive := fun _ => Bool) true (fpOut h_0.1 h_0.2.2 a b) (memN q h_0.2.1))) : List PD)
noncomputable def prDelR (q a b : Nat) : List PD → List PD :=
  fun e_0 => List.rec (motive := fun _ => List PD) [] (fun h_0 t_0 ih => (prDelR_a0 ih h_0 a b q)) e_0 
theorem prDelR_def (q a b : Nat) (e_0 : List PD) : prDelR q a b e_0 = (match e_0 with
  | [] => []
  | p :: r => bif (bif memN q p.2.1 then fpOut p.1 p.2.2 a b else true) then p :: prDelR q a b r else prDelR q a b r) := by
  cases e_0 with
  | nil =>
    show [] = _
    try simp only [iAddQ_eq, iMulQ_eq, iNegQ_eq, lenQ_eq, nthQ_eq, setQ_eq, appQ_eq, mapQ_eq, allQ_eq, anyQ_eq, dropQ_eq, takeQ_eq, revQ_eq, getDQ_eq, optLQ_eq, brecC]
    all_goals rfl
  | cons h_0 t_0 =>
    show (Bool.rec (motive := fun _ => List PD) (prDelR q a b t_0) (h_0 :: (prDelR q a b t_0)) (Bool.rec (motive := fun _ => Bool) true (fpOut h_0.1 h_0.2.2 a b) (memN q h_0.2.1))) = _
    try simp only [iAddQ_eq, iMulQ_eq, iNegQ_eq, lenQ_eq, nthQ_eq, setQ_eq, appQ_eq, mapQ_eq, allQ_eq, anyQ_eq, dropQ_eq, takeQ_eq, revQ_eq, getDQ_eq, optLQ_eq, brecC]
    all_goals
      cases hq_1 : ((bif (memN q h_0.2.1) then (fpOut h_0.1 h_0.2.2 a b) else true)) with
      | false =>
        try dsimp only [cond_false, cond_true]
        all_goals rfl
      | true =>
        try dsimp only [cond_false, cond_true]
        all_goals rfl
theorem prDelR_mem {q a b : Nat} {pr : List PD} {p : PD} (h : p ∈ prDelR q a b pr) : p ∈ pr ∧ (q ∉ p.2.1 ∨ fpOut p.1 p.2.2 a b = true) := by
  induction pr with
  | nil => cases h
  | cons x r ih =>
    rw [prDelR_def] at h
    try dsimp only at h
    cases h1 : (bif memN q x.2.1 then fpOut x.1 x.2.2 a b else true) with
    | false => rw [h1] at h; exact ⟨List.mem_cons_of_mem _ (ih h).1, (ih h).2⟩
    | true =>
      rw [h1] at h
      rcases List.mem_cons.mp h with rfl | h
      · refine ⟨List.mem_cons_self, ?_⟩
        cases h2 : memN q p.2.1 with
        | false => exact Or.inl (fun m => (by rw [memN_iff.mpr m] at h2; cases h2))
        | true =>
          rw [h2] at h1
          exact Or.inr h1
      · exact ⟨List.mem_cons_of_mem _ (ih h).1, (ih h).2⟩
theorem prOk_setR {ρ : Nat → Int} {PP : Nat → List (List Int32) → List Int → Prop} (hFP : FPok PP) {σ : SH} {pr : List PD} (h : prOk PP ρ σ pr) {q a b k j : Nat} {l : List Int32} {v : Int32} (hq : σ[q]? = some (.inr (k, .inl l))) (h1 : a ≤ j) (h2 : j ≤ b) : prOk PP ρ (σ.set q (.inr (k, .inl (l.set j v)))) (prDelR q a b pr) := fun p hp => by
  obtain ⟨p1, p2⟩ := prDelR_mem hp
  have h3 := h p p1
  have hne : ∀ i, q ≠ i → arrI ((σ.set q (.inr (k, .inl (l.set j v)))).getD i (.inl (0, []))) = arrI (σ.getD i (.inl (0, []))) := fun i hi => by
    rw [List.getD_eq_getElem?_getD, List.getD_eq_getElem?_getD, List.getElem?_set_ne hi]
  rcases p2 with p2 | p3
  · have e : p.2.1.map (fun i => arrI ((σ.set q (.inr (k, .inl (l.set j v)))).getD i (.inl (0, [])))) = p.2.1.map (fun i => arrI (σ.getD i (.inl (0, [])))) := List.map_congr_left fun i hi => hne i (fun e => by
      subst e
      exact p2 hi)
    rw [e]
    exact h3
  · refine hFP.2 p.1 a b _ _ _ ρ j v p3 h1 h2 (updL_map (fun i => ?_) p.2.1) h3
    by_cases hi : q = i
    · subst hi
      refine Or.inr ?_
      have e1 : arrI (σ.getD q (.inl (0, []))) = l := by rw [List.getD_eq_getElem?_getD, hq]; rfl
      rw [e1, List.getD_eq_getElem?_getD, List.getElem?_set_self (List.getElem?_eq_some_iff.mp hq).1]
      rfl
    · exact Or.inl (hne i hi)
abbrev WR : Type := List AV × AH × List PD
theorem cand0 {a b : Bool} (h : (bif a then b else false) = true) : a = true ∧ b = true := by
  cases a with
  | true => exact ⟨rfl, h⟩
  | false => cases h
/-- a whole int row over a whole one -/
noncomputable def whC (tab : Tb) (fs : List Ln) (n dp sp : Ln) (s0 s1 : List Sg) : Bool := match idxR tab fs n, idxR tab fs dp, idxR tab fs sp with
  | some (a, b), some (_, d), some (_, f) => bif Nat.beq a b then (bif Nat.beq b (sgLen s0) then (bif Nat.beq b (sgLen s1) then (bif Nat.beq d 0 then Nat.beq f 0 else false) else false) else false) else false
  | _, _, _ => false
noncomputable def whA (tab : Tb) (fs : List Ln) (n dp sp : Ln) (A : AH) (q0 q1 : Nat) : Option AC := match A[q0]?, A[q1]? with
  | some (.inr (0, .inl s0)), some (.inr (0, .inl s1)) => bif whC tab fs n dp sp s0 s1 then some (.inr (0, .inl s0)) else none
  | _, _ => none
theorem cpy_whole {f g : List Int32} {n : Nat} (h1 : f.length = n) (h2 : g.length = n) : cpyL f g 0 0 n = f := by
  unfold cpyL
  rw [List.take_zero, List.nil_append, List.drop_zero, Nat.zero_add, List.take_of_length_le (by omega), List.drop_eq_nil_of_le (by omega), List.append_nil]
theorem whA_ok {ρ : Nat → Int} {tab : Tb} {fs : List Ln} {σ : SH} {A : AH} {n dp sp : Ln} {q0 q1 : Nat} {c : AC} {xn xd xs : Int32} (ht : tOk ρ tab) (hf : fOk ρ fs) (hA : rel2 (crel ρ) σ A) (hn : xn.toInt = ev ρ n) (hd : xd.toInt = ev ρ dp) (hs : xs.toInt = ev ρ sp) (h : whA tab fs n dp sp A q0 q1 = some c) :
    ∃ lA lB : List Int32, σ[q0]? = some (.inr (0, .inl lA)) ∧ σ[q1]? = some (.inr (0, .inl lB)) ∧ (0 ≤ xs ∧ 0 ≤ xd ∧ 0 ≤ xn) ∧ xs.toNatClampNeg = 0 ∧ xd.toNatClampNeg = 0 ∧ xn.toNatClampNeg = lA.length ∧ lB.length = lA.length ∧ crel ρ (.inr (0, .inl lA)) c := by
  unfold whA at h
  split at h
  · rename_i s0 s1 hq0 hq1
    cases hw : whC tab fs n dp sp s0 s1 with
    | false => rw [hw] at h; cases h
    | true =>
      rw [hw] at h
      cases h
      unfold whC at hw
      split at hw
      · rename_i a b u1 d u2 f' hi1 hi2 hi3
        obtain ⟨w1, hw⟩ := cand0 hw
        obtain ⟨w2, hw⟩ := cand0 hw
        obtain ⟨w3, hw⟩ := cand0 hw
        obtain ⟨w4, w5⟩ := cand0 hw
        have v1 := Nat.eq_of_beq_eq_true w1
        have v2 := Nat.eq_of_beq_eq_true w2
        have v3 := Nat.eq_of_beq_eq_true w3
        have v4 := Nat.eq_of_beq_eq_true w4
        have v5 := Nat.eq_of_beq_eq_true w5
        obtain ⟨cA, hcA1, hcA2⟩ := rel2_get hA hq0
        obtain ⟨lA, eA, hA'⟩ := crI_inv (by decide) hcA2
        subst eA
        obtain ⟨cB, hcB1, hcB2⟩ := rel2_get hA hq1
        obtain ⟨lB, eB, hB'⟩ := crI_inv (by decide) hcB2
        subst eB
        obtain ⟨p1, p2, p3⟩ := idxR_ok ht hf hn hi1
        obtain ⟨p4, p5, p6⟩ := idxR_ok ht hf hd hi2
        obtain ⟨p7, p8, p9⟩ := idxR_ok ht hf hs hi3
        have l1 := srel_len hA'
        have l2 := srel_len hB'
        exact ⟨lA, lB, hcA1, hcB1, ⟨p7, p4, p1⟩, by omega, by omega, by omega, by omega, hcA2⟩
      · cases hw
  · cases h
/-- a long row behind a store -/
noncomputable def jSt (tab : Tb) (m : Nat) (v : Ln) : Nat := bif Nat.blt m zB then m else match cst tab v with
  | some z => bif isZ z then m else jLen m
  | none => jLen m
theorem jSt_ok {ρ : Nat → Int} {tab : Tb} (ht : tOk ρ tab) {m : Nat} {v : Ln} {l : List Int64} {y : Int64} {i : Nat} (h : jOk m l) (hy : y.toInt = ev ρ v) (hm : Nat.blt (jLen m) zB = true) : jOk (jSt tab m v) (l.set i y) := by
  have drop : jOk (jLen m) (l.set i y) := by
    refine ⟨?_, fun h2 => by rw [hm] at h2; cases h2⟩
    rw [List.length_set, h.1, jLen_lt hm]
  unfold jSt
  cases h1 : Nat.blt m zB with
  | true =>
    rw [cond_true]
    exact ⟨by rw [List.length_set]; exact h.1, fun h2 => by rw [h1] at h2; cases h2⟩
  | false =>
    rw [cond_false]
    cases h2 : cst tab v with
    | none => exact drop
    | some z =>
      try dsimp only
      cases h3 : isZ z with
      | false => exact drop
      | true =>
        refine ⟨by rw [List.length_set]; exact h.1, fun _ x hx => ?_⟩
        rcases List.mem_or_eq_of_mem_set hx with hx | hx
        · exact h.2 h1 x hx
        · subst hx
          have e1 := cst_ok ht h2
          rw [isZ_eq h3, ← hy] at e1
          rw [← ofInt64 x, e1]
          rfl
noncomputable def boolD (p : Prop) [h : Decidable p] : Bool := decide p
noncomputable def gwI_a0 :=
  fun (r_1010 : List AV) (A : AH) (q_1015 : Nat) k_1019 (s_1023 : (List Sg)) (a_1025 : Nat) (b_1026 : Nat) (pr : List PD) => ((some (r_1010, (setQ A q_1015 (.inr (k_1019, (.inl s_1023)))), (prDelR q_1015 a_1025 b_1026 pr))) : Option WR)
noncomputable def gwI (κ : Nat) (lo hi : Int) (tab : Tb) (fs : List Ln) (A : AH) (pr : List PD) (st : List AV) : Option WR :=
  (List.rec (motive := fun _ => Option WR) none (fun x_997 x_998 _ => (Sum.rec (motive := fun _ => Option WR) (fun x_999 => (Prod.rec (motive := fun _ => Option WR) (fun x_1001 v_1002 => (Bool.rec (motive := fun _ => Option WR) (List.rec (motive := fun _ => Option WR) none (fun x_1003 x_1004 _ => (Sum.rec (motive := fun _ => Option WR) (fun x_1005 => (Prod.rec (motive := fun _ => Option WR) (fun x_1007 e_1008 => (Bool.rec (motive := fun _ => Option WR) (List.rec (motive := fun _ => Option WR) none (fun x_1009 r_1010 _ => (Sum.rec (motive := fun _ => Option WR) (fun x_1011 => none) (fun x_1012 => (Sum.rec (motive := fun _ => Option WR) (fun x_1013 => (Option.rec (motive := fun _ => Option WR) none (fun q_1015 => (Option.rec (motive := fun _ => Option WR) none (fun x_1016 => (Sum.rec (motive := fun _ => Option WR) (fun x_1017 => none) (fun x_1018 => (Prod.rec (motive := fun _ => Option WR) (fun k_1019 x_1020 => (Sum.rec (motive := fun _ => Option WR) (fun s_1021 => (Bool.rec (motive := fun _ => Option WR) none (Bool.rec (motive := fun _ => Option WR) none (Option.rec (motive := fun _ => Option WR) none (fun s_1023 => (Option.rec (motive := fun _ => Option WR) none (fun x_1024 => (Prod.rec (motive := fun _ => Option WR) (fun a_1025 b_1026 => (gwI_a0 r_1010 A q_1015 k_1019 s_1023 a_1025 b_1026 pr)) x_1024)) (idxR tab fs e_1008))) (sgSto tab fs e_1008 v_1002 s_1021)) (Bool.rec (motive := fun _ => Bool) (inF tab fs lo hi v_1002) true (Nat.beq κ (nat_lit 0)))) (Nat.beq k_1019 κ))) (fun x_1022 => none) x_1020)) x_1018)) x_1016)) (nthQ A q_1015))) x_1013)) (fun x_1014 => none) x_1012)) x_1009)) x_1004) none x_1007)) x_1005)) (fun x_1006 => none) x_1003)) x_998) none x_1001)) x_999)) (fun x_1000 => none) x_997)) st)
theorem gwI_def (κ : Nat) (lo hi : Int) (tab : Tb) (fs : List Ln) (A : AH) (pr : List PD) (st : List AV) : gwI κ lo hi tab fs A pr st = (match st with
  | .inl (false, v) :: .inl (false, e) :: .inr (.inl (some q)) :: r => (match A[q]? with
    | some (.inr (k, .inl s)) => bif Nat.beq k κ then (bif (bif Nat.beq κ 0 then true else inF tab fs lo hi v) then (match sgSto tab fs e v s, idxR tab fs e with
      | some s', some (a, b) => some (r, A.set q (.inr (k, .inl s')), prDelR q a b pr)
      | _, _ => none) else none) else none
    | _ => none)
  | _ => none) := by
  show (List.rec (motive := fun _ => Option WR) none (fun x_967 x_968 _ => (Sum.rec (motive := fun _ => Option WR) (fun x_969 => (Prod.rec (motive := fun _ => Option WR) (fun x_971 v_972 => (Bool.rec (motive := fun _ => Option WR) (List.rec (motive := fun _ => Option WR) none (fun x_973 x_974 _ => (Sum.rec (motive := fun _ => Option WR) (fun x_975 => (Prod.rec (motive := fun _ => Option WR) (fun x_977 e_978 => (Bool.rec (motive := fun _ => Option WR) (List.rec (motive := fun _ => Option WR) none (fun x_979 r_980 _ => (Sum.rec (motive := fun _ => Option WR) (fun x_981 => none) (fun x_982 => (Sum.rec (motive := fun _ => Option WR) (fun x_983 => (Option.rec (motive := fun _ => Option WR) none (fun q_985 => (Option.rec (motive := fun _ => Option WR) none (fun x_986 => (Sum.rec (motive := fun _ => Option WR) (fun x_987 => none) (fun x_988 => (Prod.rec (motive := fun _ => Option WR) (fun k_989 x_990 => (Sum.rec (motive := fun _ => Option WR) (fun s_991 => (Bool.rec (motive := fun _ => Option WR) none (Bool.rec (motive := fun _ => Option WR) none (Option.rec (motive := fun _ => Option WR) none (fun s_993 => (Option.rec (motive := fun _ => Option WR) none (fun x_994 => (Prod.rec (motive := fun _ => Option WR) (fun a_995 b_996 => (some (r_980, (setQ A q_985 (.inr (k_989, (.inl s_993)))), (prDelR q_985 a_995 b_996 pr)))) x_994)) (idxR tab fs e_978))) (sgSto tab fs e_978 v_972 s_991)) (Bool.rec (motive := fun _ => Bool) (inF tab fs lo hi v_972) true (Nat.beq κ (nat_lit 0)))) (Nat.beq k_989 κ))) (fun x_992 => none) x_990)) x_988)) x_986)) (nthQ A q_985))) x_983)) (fun x_984 => none) x_982)) x_979)) x_974) none x_977)) x_975)) (fun x_976 => none) x_973)) x_968) none x_971)) x_969)) (fun x_970 => none) x_967)) st) = _
  try simp only [iAddQ_eq, iMulQ_eq, iNegQ_eq, lenQ_eq, nthQ_eq, setQ_eq, appQ_eq, mapQ_eq, allQ_eq, anyQ_eq, dropQ_eq, takeQ_eq, revQ_eq, getDQ_eq, optLQ_eq, brecC]
  all_goals
    cases st with
    | nil =>
      try dsimp only [cond_false, cond_true]
      all_goals rfl
    | cons y_1027 y_1028 =>
      try dsimp only [cond_false, cond_true]
      all_goals
        cases y_1027 with
        | inl y_1029 =>
          try dsimp only [cond_false, cond_true]
          all_goals
            cases y_1029 with
            | mk y_1030 y_1031 =>
              try dsimp only [cond_false, cond_true]
              all_goals
                cases y_1030 with
                | false =>
                  try dsimp only [cond_false, cond_true]
                  all_goals
                    cases y_1028 with
                    | nil =>
                      try dsimp only [cond_false, cond_true]
                      all_goals rfl
                    | cons y_1032 y_1033 =>
                      try dsimp only [cond_false, cond_true]
                      all_goals
                        cases y_1032 with
                        | inl y_1034 =>
                          try dsimp only [cond_false, cond_true]
                          all_goals
                            cases y_1034 with
                            | mk y_1035 y_1036 =>
                              try dsimp only [cond_false, cond_true]
                              all_goals
                                cases y_1035 with
                                | false =>
                                  try dsimp only [cond_false, cond_true]
                                  all_goals
                                    cases y_1033 with
                                    | nil =>
                                      try dsimp only [cond_false, cond_true]
                                      all_goals rfl
                                    | cons y_1037 y_1038 =>
                                      try dsimp only [cond_false, cond_true]
                                      all_goals
                                        cases y_1037 with
                                        | inl y_1039 =>
                                          try dsimp only [cond_false, cond_true]
                                          all_goals rfl
                                        | inr y_1040 =>
                                          try dsimp only [cond_false, cond_true]
                                          all_goals
                                            cases y_1040 with
                                            | inl y_1041 =>
                                              try dsimp only [cond_false, cond_true]
                                              all_goals
                                                cases y_1041 with
                                                | none =>
                                                  try dsimp only [cond_false, cond_true]
                                                  all_goals rfl
                                                | some y_1042 =>
                                                  try dsimp only [cond_false, cond_true]
                                                  all_goals
                                                    cases hq_13 : A[y_1042]? with
                                                    | none =>
                                                      try dsimp only [cond_false, cond_true]
                                                      all_goals rfl
                                                    | some y_1043 =>
                                                      try dsimp only [cond_false, cond_true]
                                                      all_goals
                                                        cases y_1043 with
                                                        | inl y_1044 =>
                                                          try dsimp only [cond_false, cond_true]
                                                          all_goals rfl
                                                        | inr y_1045 =>
                                                          try dsimp only [cond_false, cond_true]
                                                          all_goals
                                                            cases y_1045 with
                                                            | mk y_1046 y_1047 =>
                                                              try dsimp only [cond_false, cond_true]
                                                              all_goals
                                                                cases y_1047 with
                                                                | inl y_1048 =>
                                                                  try dsimp only [cond_false, cond_true]
                                                                  all_goals
                                                                    cases hq_17 : (Nat.beq y_1046 κ) with
                                                                    | false =>
                                                                      try dsimp only [cond_false, cond_true]
                                                                      all_goals rfl
                                                                    | true =>
                                                                      try dsimp only [cond_false, cond_true]
                                                                      all_goals
                                                                        cases hq_18 : ((bif (Nat.beq κ 0) then true else (inF tab fs lo hi y_1031))) with
                                                                        | false =>
                                                                          try dsimp only [cond_false, cond_true]
                                                                          all_goals rfl
                                                                        | true =>
                                                                          try dsimp only [cond_false, cond_true]
                                                                          all_goals
                                                                            cases hq_19 : (sgSto tab fs y_1036 y_1031 y_1048) with
                                                                            | none =>
                                                                              try dsimp only [cond_false, cond_true]
                                                                              all_goals rfl
                                                                            | some y_1049 =>
                                                                              try dsimp only [cond_false, cond_true]
                                                                              all_goals
                                                                                cases hq_20 : (idxR tab fs y_1036) with
                                                                                | none =>
                                                                                  try dsimp only [cond_false, cond_true]
                                                                                  all_goals rfl
                                                                                | some y_1050 =>
                                                                                  try dsimp only [cond_false, cond_true]
                                                                                  all_goals
                                                                                    cases y_1050 with
                                                                                    | mk y_1051 y_1052 =>
                                                                                      try dsimp only [cond_false, cond_true]
                                                                                      all_goals rfl
                                                                | inr y_1053 =>
                                                                  try dsimp only [cond_false, cond_true]
                                                                  all_goals rfl
                                            | inr y_1054 =>
                                              try dsimp only [cond_false, cond_true]
                                              all_goals rfl
                                | true =>
                                  try dsimp only [cond_false, cond_true]
                                  all_goals rfl
                        | inr y_1055 =>
                          try dsimp only [cond_false, cond_true]
                          all_goals rfl
                | true =>
                  try dsimp only [cond_false, cond_true]
                  all_goals rfl
        | inr y_1056 =>
          try dsimp only [cond_false, cond_true]
          all_goals rfl
noncomputable def gP_a0 :=
  fun (o : Nat) (a : Nat) (ini : Bool) => ((Bool.rec (motive := fun _ => Bool) false (Nat.beq o a) ini) : Bool)
noncomputable def gP_a1 :=
  fun (r_1074 : List AV) (A : AH) (q_1079 : Nat) ci_1083 as_1084 (b : Nat) (v_1071 : AV) (pr : List PD) => ((some (r_1074, (setQ A q_1079 (.inl (ci_1083, (setQ as_1084 b v_1071)))), pr)) : Option WR)
noncomputable def gP_a2 :=
  fun (r_1074 : List AV) (A : AH) (q_1079 : Nat) ci_1083 as_1084 (b : Nat) (v_1071 : AV) (pr : List PD) (o : Nat) (a : Nat) (ini : Bool) => ((Bool.rec (motive := fun _ => Option WR) none (gP_a1 r_1074 A q_1079 ci_1083 as_1084 b v_1071 pr) (Bool.rec (motive := fun _ => Bool) true (gP_a0 o a ini) (clT a b).2.2.2)) : Option WR)
noncomputable def gP_a3 :=
  fun (r_1074 : List AV) (A : AH) (q_1079 : Nat) ci_1083 as_1084 (b : Nat) (v_1071 : AV) (pr : List PD) (o : Nat) (a : Nat) (ini : Bool) => ((Bool.rec (motive := fun _ => Option WR) none (gP_a2 r_1074 A q_1079 ci_1083 as_1084 b v_1071 pr o a ini) (fitA (clY a b) v_1071)) : Option WR)
noncomputable def gP_a4 :=
  fun (r_1074 : List AV) (A : AH) (q_1079 : Nat) ci_1083 as_1084 (b : Nat) (v_1071 : AV) (pr : List PD) (o : Nat) (a : Nat) (ini : Bool) => ((Bool.rec (motive := fun _ => Option WR) none (gP_a3 r_1074 A q_1079 ci_1083 as_1084 b v_1071 pr o a ini) (Nat.blt b (lenQ as_1084))) : Option WR)
noncomputable def gP_a5 :=
  fun (r_1074 : List AV) (A : AH) (q_1079 : Nat) ci_1083 as_1084 (b : Nat) (v_1071 : AV) (pr : List PD) (o : Nat) (a : Nat) (ini : Bool) => ((Bool.rec (motive := fun _ => Option WR) none (gP_a4 r_1074 A q_1079 ci_1083 as_1084 b v_1071 pr o a ini) (Nat.beq ci_1083 a)) : Option WR)
noncomputable def gP (ini : Bool) (o a b : Nat) (A : AH) (pr : List PD) (st : List AV) : Option WR :=
  (List.rec (motive := fun _ => Option WR) none (fun v_1071 x_1072 _ => (List.rec (motive := fun _ => Option WR) none (fun x_1073 r_1074 _ => (Sum.rec (motive := fun _ => Option WR) (fun x_1075 => none) (fun x_1076 => (Sum.rec (motive := fun _ => Option WR) (fun x_1077 => (Option.rec (motive := fun _ => Option WR) none (fun q_1079 => (Option.rec (motive := fun _ => Option WR) none (fun x_1080 => (Sum.rec (motive := fun _ => Option WR) (fun x_1081 => (Prod.rec (motive := fun _ => Option WR) (fun ci_1083 as_1084 => (gP_a5 r_1074 A q_1079 ci_1083 as_1084 b v_1071 pr o a ini)) x_1081)) (fun x_1082 => none) x_1080)) (nthQ A q_1079))) x_1077)) (fun x_1078 => none) x_1076)) x_1073)) x_1072)) st)
theorem gP_def (ini : Bool) (o a b : Nat) (A : AH) (pr : List PD) (st : List AV) : gP ini o a b A pr st = (match st with
  | v :: .inr (.inl (some q)) :: r => (match A[q]? with
    | some (.inl (ci, as)) => bif Nat.beq ci a then (bif Nat.blt b as.length then (bif fitA (clY a b) v then (bif (bif (clT a b).2.2.2 then (bif ini then Nat.beq o a else false) else true) then some (r, A.set q (.inl (ci, as.set b v)), pr) else none) else none) else none) else none
    | _ => none)
  | _ => none) := by
  show (List.rec (motive := fun _ => Option WR) none (fun v_1057 x_1058 _ => (List.rec (motive := fun _ => Option WR) none (fun x_1059 r_1060 _ => (Sum.rec (motive := fun _ => Option WR) (fun x_1061 => none) (fun x_1062 => (Sum.rec (motive := fun _ => Option WR) (fun x_1063 => (Option.rec (motive := fun _ => Option WR) none (fun q_1065 => (Option.rec (motive := fun _ => Option WR) none (fun x_1066 => (Sum.rec (motive := fun _ => Option WR) (fun x_1067 => (Prod.rec (motive := fun _ => Option WR) (fun ci_1069 as_1070 => (Bool.rec (motive := fun _ => Option WR) none (Bool.rec (motive := fun _ => Option WR) none (Bool.rec (motive := fun _ => Option WR) none (Bool.rec (motive := fun _ => Option WR) none (some (r_1060, (setQ A q_1065 (.inl (ci_1069, (setQ as_1070 b v_1057)))), pr)) (Bool.rec (motive := fun _ => Bool) true (Bool.rec (motive := fun _ => Bool) false (Nat.beq o a) ini) (clT a b).2.2.2)) (fitA (clY a b) v_1057)) (Nat.blt b (lenQ as_1070))) (Nat.beq ci_1069 a))) x_1067)) (fun x_1068 => none) x_1066)) (nthQ A q_1065))) x_1063)) (fun x_1064 => none) x_1062)) x_1059)) x_1058)) st) = _
  try simp only [iAddQ_eq, iMulQ_eq, iNegQ_eq, lenQ_eq, nthQ_eq, setQ_eq, appQ_eq, mapQ_eq, allQ_eq, anyQ_eq, dropQ_eq, takeQ_eq, revQ_eq, getDQ_eq, optLQ_eq, brecC]
  all_goals
    cases st with
    | nil =>
      try dsimp only [cond_false, cond_true]
      all_goals rfl
    | cons y_1085 y_1086 =>
      try dsimp only [cond_false, cond_true]
      all_goals
        cases y_1086 with
        | nil =>
          try dsimp only [cond_false, cond_true]
          all_goals rfl
        | cons y_1087 y_1088 =>
          try dsimp only [cond_false, cond_true]
          all_goals
            cases y_1087 with
            | inl y_1089 =>
              try dsimp only [cond_false, cond_true]
              all_goals rfl
            | inr y_1090 =>
              try dsimp only [cond_false, cond_true]
              all_goals
                cases y_1090 with
                | inl y_1091 =>
                  try dsimp only [cond_false, cond_true]
                  all_goals
                    cases y_1091 with
                    | none =>
                      try dsimp only [cond_false, cond_true]
                      all_goals rfl
                    | some y_1092 =>
                      try dsimp only [cond_false, cond_true]
                      all_goals
                        cases hq_6 : A[y_1092]? with
                        | none =>
                          try dsimp only [cond_false, cond_true]
                          all_goals rfl
                        | some y_1093 =>
                          try dsimp only [cond_false, cond_true]
                          all_goals
                            cases y_1093 with
                            | inl y_1094 =>
                              try dsimp only [cond_false, cond_true]
                              all_goals
                                cases y_1094 with
                                | mk y_1095 y_1096 =>
                                  try dsimp only [cond_false, cond_true]
                                  all_goals
                                    cases hq_9 : (Nat.beq y_1095 a) with
                                    | false =>
                                      try dsimp only [cond_false, cond_true]
                                      all_goals rfl
                                    | true =>
                                      try dsimp only [cond_false, cond_true]
                                      all_goals
                                        cases hq_10 : (Nat.blt b y_1096.length) with
                                        | false =>
                                          try dsimp only [cond_false, cond_true]
                                          all_goals rfl
                                        | true =>
                                          try dsimp only [cond_false, cond_true]
                                          all_goals
                                            cases hq_11 : (fitA ((clY a b)) y_1085) with
                                            | false =>
                                              try dsimp only [cond_false, cond_true]
                                              all_goals rfl
                                            | true =>
                                              try dsimp only [cond_false, cond_true]
                                              all_goals
                                                cases hq_12 : ((bif ((clT a b)).2.2.2 then ((bif ini then (Nat.beq o a) else false)) else true)) with
                                                | false =>
                                                  try dsimp only [cond_false, cond_true]
                                                  all_goals rfl
                                                | true =>
                                                  try dsimp only [cond_false, cond_true]
                                                  all_goals rfl
                            | inr y_1097 =>
                              try dsimp only [cond_false, cond_true]
                              all_goals rfl
                | inr y_1098 =>
                  try dsimp only [cond_false, cond_true]
                  all_goals rfl
noncomputable def g4 (ini : Bool) (o : Nat) (i : Instr) (a b : Nat) (tab : Tb) (fs : List Ln) (A : AH) (pr : List PD) (st : List AV) : Option WR := match i with
  | .putfield _ => gP ini o a b A pr st
  | .iastore => gwI 0 lo32 hi32 tab fs A pr st
  | .castore => gwI 2 (.ofNat 0) (.ofNat 65535) tab fs A pr st
  | .bastore => gwI 3 (.ofNat 0) (.ofNat 1) tab fs A pr st
  | .lastore => match st with
    | .inl (true, v) :: .inl (false, e) :: .inr (.inl (some q)) :: r => (match A[q]? with
      | some (.inr (k, .inr (.inl m))) => bif Nat.beq k 1 then (match idxR tab fs e with
        | some (_, u) => bif Nat.blt u (jLen m) then (bif Nat.blt (jLen m) zB then some (r, A.set q (.inr (k, .inr (.inl (jSt tab m v)))), pr) else none) else none
        | none => none) else none
      | _ => none)
    | _ => none
  | .aastore => match st with
    | .inr (.inl (some v)) :: .inl (false, e) :: .inr (.inl (some q)) :: r => (match A[q]?, A[v]? with
      | some (.inr (k, .inr (.inr l))), some (.inl (ci, _)) => bif decide (kty k = .object (ownN ci) ∧ k < 8 ∧ ci < 13) then (match idxR tab fs e with
        | some (x, u) => bif Nat.beq x u then (bif Nat.blt x l.length then some (r, A.set q (.inr (k, .inr (.inr (l.set x (some v))))), pr) else none) else none
        | none => none) else none
      | _, _ => none)
    | _ => none
  | .invokestatic _ => match st with
    | .inl (false, n) :: .inl (false, dp) :: .inr (.inl (some q1)) :: .inl (false, sp) :: .inr (.inl (some q0)) :: r => (match whA tab fs n dp sp A q0 q1 with
      | some c => bif Nat.ble ((r.map catA).sum) 8 then some (r, A.set q1 c, prDel q1 pr) else none
      | none => match A[q0]?, A[q1]? with
      | some (.inr (k0, .inl [.inr (m0, lo0, hi0)])), some (.inr (k1, .inl [.inr (m1, lo1, hi1)])) =>
        bif Nat.beq k0 k1 then (bif (bif Nat.beq k0 0 then true else bif Nat.beq k0 2 then (bif leI 0 lo0 then leI hi0 (.ofNat 65535) else false) else false) then
        (match idxR tab fs n, idxR tab fs dp, idxR tab fs sp with
        | some (_, nu), some (_, du), some (_, su) => bif Nat.ble (Nat.add su nu) m0 then (bif Nat.ble (Nat.add du nu) m1 then (bif leI lo1 lo0 then (bif leI hi0 hi1 then (bif Nat.ble ((r.map catA).sum) 8 then some (r, A, prDel q1 pr) else none) else none) else none) else none) else none
        | _, _, _ => none) else none) else none
      | _, _ => none)
    | _ => none
  | _ => none
theorem nar_int (x : Int32) : vp_nar .int x = x := rfl
theorem nar_char {x : Int32} (h : 0 ≤ x.toInt ∧ x.toInt ≤ 65535) : vp_nar .char x = x := by
  show x.toUInt32.toUInt16.toUInt32.toInt32 = x
  rw [← Int32.toInt_inj]
  have e1 : (x.toUInt32.toUInt16.toUInt32.toInt32).toInt = (x.toUInt32.toUInt16.toUInt32.toBitVec).toInt := rfl
  have e3 : x.toInt = x.toBitVec.toInt := rfl
  have h2 := x.toBitVec.isLt
  have h3 := BitVec.toInt_eq_toNat_cond x.toBitVec
  have h4 := BitVec.toInt_eq_toNat_cond (x.toUInt32.toUInt16.toUInt32).toBitVec
  have e2 : (x.toUInt32.toUInt16.toUInt32).toBitVec.toNat = x.toBitVec.toNat % 65536 := by
    show (x.toUInt32.toUInt16.toUInt32).toNat = _
    rw [UInt16.toNat_toUInt32, UInt32.toNat_toUInt16]
    rfl
  rw [e1, h4, e2, e3, h3]
  rw [e3, h3] at h
  have h5 : 2 * x.toBitVec.toNat < 2 ^ 32 := by
    split at h <;> omega
  rw [if_pos h5] at h ⊢
  rw [if_pos (by omega)]
  omega
theorem nar_bool {x : Int32} (h : 0 ≤ x.toInt ∧ x.toInt ≤ 1) : vp_nar .boolean x = x := by
  show x &&& 1 = x
  have h1 : x = 0 ∨ x = 1 := by
    rcases (show x.toInt = 0 ∨ x.toInt = 1 by omega) with q | q
    · exact Or.inl (toInt_z q)
    · refine Or.inr ?_
      rw [← ofInt32 x, q]
      rfl
  rcases h1 with rfl | rfl <;> rfl
section WRITE
variable {PP : Nat → List (List Int32) → List Int → Prop} {ρ : Nat → Int} {tab : Tb} {fs : List Ln} {cst : List Value} {st rest : List AV} {σ : SH} {A A' : AH} {pr pr' : List PD}
theorem cat_sum {l : List Value} {al : List AV} (h : rel2 (vrel ρ) l al) : (l.map fun v => v.category).sum = (al.map catA).sum := by
  induction al generalizing l with
  | nil => rw [rel2_nil h]; rfl
  | cons a r ih =>
    obtain ⟨v, l', e, h1, h2⟩ := rel2_cons h
    subst e
    simp [catA_ok h1, ih h2]
theorem wInt_ok (hFP : FPok PP) {κ : Nat} (hκ : κ < 100) {ty : FieldType} {lo hi : Int} (hn : ∀ x : Int32, (κ = 0 ∨ (lo ≤ x.toInt ∧ x.toInt ≤ hi)) → vp_nar ty x = x) (ht : tOk ρ tab) (hf : fOk ρ fs) (hs : rel2 (vrel ρ) cst st) (hA : rel2 (crel ρ) σ A) (h : gwI κ lo hi tab fs A pr st = some (rest, A', pr')) : ∃ cr σ', sI κ ty cst σ = some (cr, σ') ∧ rel2 (vrel ρ) cr rest ∧ rel2 (crel ρ) σ' A' ∧ (prOk PP ρ σ pr → prOk PP ρ σ' pr') ∧ σ'.length = σ.length := by
  rw [gwI_def] at h
  split at h
  · rename_i v e q r'
    split at h
    · rename_i k s hq
      cases hk : Nat.beq k κ with
      | false => rw [hk] at h; cases h
      | true =>
        rw [hk] at h
        simp only [cond_true] at h
        cases hb : (bif Nat.beq κ 0 then true else inF tab fs lo hi v) with
        | false => rw [hb] at h; cases h
        | true =>
          rw [hb] at h
          simp only [cond_true] at h
          split at h
          · rename_i s' a b hl hidx
            cases h
            obtain ⟨v0, c0, e0, h0, hs0⟩ := rel2_cons hs
            obtain ⟨v1, c1, e1, h1, hs1⟩ := rel2_cons hs0
            obtain ⟨v2, c2, e2, h2, hs2⟩ := rel2_cons hs1
            obtain ⟨y, e5, h5⟩ := vI_inv h0
            obtain ⟨x, e3, h3⟩ := vI_inv h1
            have e4 := vR_inv h2
            subst e0; subst e1; subst e2; subst e3; subst e4; subst e5
            obtain ⟨c, hc1, hc2⟩ := rel2_get hA hq
            have := Nat.eq_of_beq_eq_true hk
            subst this
            obtain ⟨l, e6, h6⟩ := crI_inv hκ hc2
            subst e6
            obtain ⟨f1, f2⟩ := sgSto_ok ht hf h6 h3 h5 hl
            obtain ⟨d1, d2, d3⟩ := idxR_ok ht hf h3 hidx
            have hy : vp_nar ty y = y := hn y (by
              cases hz : Nat.beq k 0 with
              | true => exact Or.inl (Nat.eq_of_beq_eq_true hz)
              | false =>
                rw [hz] at hb
                have := inF_ok ht hf hb
                rw [← h5] at this
                exact Or.inr this)
            refine ⟨c2, σ.set q (.inr (k, .inl (l.set x.toNatClampNeg y))), ?_, hs2, rel2_set hA (arel_mk hκ f2), fun hp => prOk_setR hFP hp hc1 d2 d3, List.length_set⟩
            unfold sI
            simp only [hc1]
            rw [if_pos ⟨trivial, f1⟩, hy]
          · cases h
    · cases h
  · cases h
theorem cpy_all {f g : List Int32} {sp dp n : Nat} {lo0 hi0 lo1 hi1 : Int} (h1 : sp + n ≤ f.length) (h2 : dp + n ≤ g.length) (hf : ∀ x ∈ f, lo0 ≤ x.toInt ∧ x.toInt ≤ hi0) (hg : ∀ x ∈ g, lo1 ≤ x.toInt ∧ x.toInt ≤ hi1) (hl : lo1 ≤ lo0) (hh : hi0 ≤ hi1) : ∀ x ∈ cpyL f g sp dp n, lo1 ≤ x.toInt ∧ x.toInt ≤ hi1 := by
  intro x hx
  unfold cpyL at hx
  rcases List.mem_append.mp hx with q | q
  · exact hg x (List.mem_of_mem_take q)
  · rcases List.mem_append.mp q with q | q
    · have := hf x (List.mem_of_mem_drop (List.mem_of_mem_take q))
      omega
    · exact hg x (List.mem_of_mem_drop q)
theorem srel_one {m : Nat} {lo hi : Int} {l : List Int32} (h : srel ρ [.inr (m, lo, hi)] l) : l.length = m ∧ ∀ x ∈ l, lo ≤ x.toInt ∧ x.toInt ≤ hi := by
  obtain ⟨l1, l2, e1, e2, e3, e4⟩ := h
  have e5 : l2 = [] := e4
  subst e5
  subst e1
  rw [List.append_nil]
  exact ⟨e2, e3⟩
theorem srel_mk {m : Nat} {lo hi : Int} {l : List Int32} (h1 : l.length = m) (h2 : ∀ x ∈ l, lo ≤ x.toInt ∧ x.toInt ≤ hi) : srel ρ [.inr (m, lo, hi)] l := ⟨l, [], (List.append_nil l).symm, h1, h2, rfl⟩
set_option maxHeartbeats 8000000 in
theorem g4_ok (hFP : FPok PP) {ini : Bool} {o : Nat} {i : Instr} {a b : Nat} (ht : tOk ρ tab) (hf : fOk ρ fs) (hs : rel2 (vrel ρ) cst st) (hA : rel2 (crel ρ) σ A) (h : g4 ini o i a b tab fs A pr st = some (rest, A', pr')) : ∃ cr σ', stepE ini o i a b cst σ = some (cr, σ') ∧ rel2 (vrel ρ) cr rest ∧ rel2 (crel ρ) σ' A' ∧ (prOk PP ρ σ pr → prOk PP ρ σ' pr') ∧ σ'.length = σ.length := by
  have no : ∀ {P : Prop}, (none : Option WR) = some (rest, A', pr') → P := fun h => by cases h
  cases i with
  | putfield _ =>
    simp only [g4] at h
    rw [gP_def] at h
    split at h
    · rename_i v q r'
      split at h
      · rename_i ci as hq
        cases hk : Nat.beq ci a with
        | false => rw [hk] at h; cases h
        | true =>
          rw [hk] at h
          cases hb : Nat.blt b as.length with
          | false => rw [hb] at h; cases h
          | true =>
            rw [hb] at h
            cases hfi : fitA (clY a b) v with
            | false => rw [hfi] at h; cases h
            | true =>
              rw [hfi] at h
              cases hfin : (bif (clT a b).2.2.2 then (bif ini then Nat.beq o a else false) else true) with
              | false => rw [hfin] at h; cases h
              | true =>
                rw [hfin] at h
                cases h
                obtain ⟨v0, c0, e0, h0, hs0⟩ := rel2_cons hs
                obtain ⟨v1, c1, e1, h1, hs1⟩ := rel2_cons hs0
                have e4 := vR_inv h1
                subst e0; subst e1; subst e4
                obtain ⟨c, hc1, hc2⟩ := rel2_get hA hq
                obtain ⟨fl, e5, h5⟩ := crO_inv hc2
                subst e5
                have := Nat.eq_of_beq_eq_true hk
                subst this
                have hfin' : (clT ci b).2.2.2 = false ∨ (ini = true ∧ o = ci) := by
                  cases hfb : (clT ci b).2.2.2 with
                  | false => exact Or.inl rfl
                  | true =>
                    rw [hfb] at hfin
                    refine Or.inr ?_
                    cases ini with
                    | false => cases hfin
                    | true => exact ⟨rfl, Nat.eq_of_beq_eq_true hfin⟩
                refine ⟨c1, σ.set q (.inl (ci, fl.set b v0)), ?_, hs1, rel2_set hA ⟨_, rfl, rel2_set h5 h0⟩, fun hp => prOk_same hp hc1 rfl, List.length_set⟩
                simp only [stepE, hc1]
                rw [if_pos ⟨trivial, by rw [rel2_len h5]; exact blt_iff.mp hb, fitA_ok h0 hfi, hfin'⟩]
      · cases h
    · cases h
  | iastore => exact wInt_ok (lo := lo32) (hi := hi32) hFP (by decide) (fun x _ => nar_int x) ht hf hs hA h
  | castore => exact wInt_ok hFP (by decide) (fun x q => nar_char (q.elim (fun q => (by cases q)) id)) ht hf hs hA h
  | bastore => exact wInt_ok hFP (by decide) (fun x q => nar_bool (q.elim (fun q => (by cases q)) id)) ht hf hs hA h
  | lastore =>
    simp only [g4] at h
    split at h
    · rename_i w e q r'
      split at h
      · rename_i k m hq
        cases hk : Nat.beq k 1 with
        | false => rw [hk] at h; cases h
        | true =>
          rw [hk] at h
          simp only [cond_true] at h
          split at h
          · rename_i lo u hi
            cases hu : Nat.blt u (jLen m) with
            | false => rw [hu] at h; cases h
            | true =>
              rw [hu] at h
              cases hm : Nat.blt (jLen m) zB with
              | false => rw [hm] at h; cases h
              | true =>
              rw [hm] at h
              cases h
              obtain ⟨v0, c0, e0, h0, hs0⟩ := rel2_cons hs
              obtain ⟨v1, c1, e1, h1, hs1⟩ := rel2_cons hs0
              obtain ⟨v2, c2, e2, h2, hs2⟩ := rel2_cons hs1
              obtain ⟨y, e5, h5⟩ := vJ_inv h0
              obtain ⟨x, e3, h3⟩ := vI_inv h1
              have e4 := vR_inv h2
              subst e0; subst e1; subst e2; subst e3; subst e4; subst e5
              obtain ⟨c, hc1, hc2⟩ := rel2_get hA hq
              obtain ⟨l, e6, h6⟩ := crJ_inv hc2
              subst e6
              obtain ⟨p1, p2, p3⟩ := idxR_ok ht hf h3 hi
              have p4 := blt_iff.mp hu
              have p5 := h6.1
              have hin : inB x l.length = true := by
                simp only [inB, Bool.and_eq_true, decide_eq_true_eq]
                exact ⟨p1, by omega⟩
              have hset := rel2_set hA (i := q) (a := (.inr (k, .inr (.inl (l.set x.toNatClampNeg y))) : SC)) (b := .inr (k, .inr (.inl (jSt tab m w)))) ⟨_, rfl, jSt_ok ht h6 h5 hm⟩
              refine ⟨c2, _, ?_, hs2, hset, fun hp => prOk_same hp hc1 rfl, List.length_set⟩
              simp only [stepE, hc1]
              rw [if_pos ⟨Nat.eq_of_beq_eq_true hk, hin⟩]
          · cases h
      · cases h
    · cases h
  | aastore =>
    simp only [g4] at h
    split at h
    · rename_i v e q r'
      split at h
      · rename_i k l ci as hq hv
        cases hd : decide (kty k = .object (ownN ci) ∧ k < 8 ∧ ci < 13) with
        | false => rw [hd] at h; cases h
        | true =>
          rw [hd] at h
          simp only [cond_true] at h
          split at h
          · rename_i x0 u hi
            cases hxu : Nat.beq x0 u with
            | false => rw [hxu] at h; cases h
            | true =>
              rw [hxu] at h
              cases hxl : Nat.blt x0 l.length with
              | false => rw [hxl] at h; cases h
              | true =>
                rw [hxl] at h
                cases h
                obtain ⟨v0, c0, e0, h0, hs0⟩ := rel2_cons hs
                obtain ⟨v1, c1, e1, h1, hs1⟩ := rel2_cons hs0
                obtain ⟨v2, c2, e2, h2, hs2⟩ := rel2_cons hs1
                have e5 := vR_inv h0
                obtain ⟨x, e3, h3⟩ := vI_inv h1
                have e4 := vR_inv h2
                subst e0; subst e1; subst e2; subst e3; subst e4; subst e5
                obtain ⟨c, hc1, hc2⟩ := rel2_get hA hq
                have e6 := crR_inv hc2
                subst e6
                obtain ⟨d, hd1, hd2⟩ := rel2_get hA hv
                obtain ⟨fl, e7, h7⟩ := crO_inv hd2
                subst e7
                obtain ⟨p1, p2, p3⟩ := idxR_ok ht hf h3 hi
                have p4 := blt_iff.mp hxl
                have p5 := Nat.eq_of_beq_eq_true hxu
                have p6 : x.toNatClampNeg = x0 := by omega
                have hin : inB x l.length = true := by
                  simp only [inB, Bool.and_eq_true, decide_eq_true_eq]
                  exact ⟨p1, by omega⟩
                have hdd := of_decide_eq_true hd
                refine ⟨c2, σ.set q (.inr (k, .inr (.inr (l.set x0 (some v))))), ?_, hs2, rel2_set hA rfl, fun hp => prOk_same hp hc1 rfl, List.length_set⟩
                simp only [stepE, hc1, hd1]
                rw [if_pos ⟨hdd.1, hdd.2.1, hdd.2.2, hin⟩, p6]
          · cases h
      · cases h
    · cases h
  | invokestatic _ =>
    simp only [g4] at h
    split at h
    · rename_i n dp q1 sp q0 r'
      split at h
      · rename_i c hw
        cases g5 : Nat.ble ((r'.map catA).sum) 8 with
        | false => rw [g5] at h; cases h
        | true =>
          rw [g5] at h
          cases h
          obtain ⟨w0, c0, e0, h0, hs0⟩ := rel2_cons hs
          obtain ⟨w1, c1, e1, h1, hs1⟩ := rel2_cons hs0
          obtain ⟨w2, c2, e2, h2, hs2⟩ := rel2_cons hs1
          obtain ⟨w3, c3, e3, h3, hs3⟩ := rel2_cons hs2
          obtain ⟨w4, c4, e4, h4, hs4⟩ := rel2_cons hs3
          obtain ⟨xn, f0, k0'⟩ := vI_inv h0
          obtain ⟨xd, f1, k1'⟩ := vI_inv h1
          have f2 := vR_inv h2
          obtain ⟨xs, f3, k3'⟩ := vI_inv h3
          have f4 := vR_inv h4
          subst e0; subst e1; subst e2; subst e3; subst e4
          subst f0; subst f1; subst f2; subst f3; subst f4
          obtain ⟨lA, lB, hcA1, hcB1, r0, r1, r2, r3, r4, r6⟩ := whA_ok ht hf hA k0' k1' k3' hw
          have r5 := Nat.le_of_ble_eq_true g5
          have hset := rel2_set hA (i := q1) (a := (.inr (0, .inl lA) : SC)) (b := c) r6
          have hc := cpy_whole (f := lA) (g := lB) (n := xn.toNatClampNeg) r3.symm (r4.trans r3.symm)
          refine ⟨c4, _, ?_, hs4, hset, fun hp => prOk_set hp q1 _, List.length_set⟩
          simp only [stepE, hcA1, hcB1]
          rw [if_pos ⟨⟨trivial, Or.inl trivial⟩, r0, by omega, List.all_eq_true.mpr fun x _ => rfl, by rw [cat_sum hs4]; exact r5⟩, r1, r2, hc]
      split at h
      · rename_i k0 m0 lo0 hi0 k1 m1 lo1 hi1 hq0 hq1
        cases hk : Nat.beq k0 k1 with
        | false => rw [hk] at h; cases h
        | true =>
          rw [hk] at h
          simp only [cond_true] at h
          cases hkk : (bif Nat.beq k0 0 then true else bif Nat.beq k0 2 then (bif leI 0 lo0 then leI hi0 (.ofNat 65535) else false) else false) with
          | false => rw [hkk] at h; cases h
          | true =>
            rw [hkk] at h
            simp only [cond_true] at h
            split at h
            · rename_i nl nu dl du sl su hn hdp hsp
              cases g1 : Nat.ble (Nat.add su nu) m0 with
              | false => rw [g1] at h; cases h
              | true =>
                rw [g1] at h
                cases g2 : Nat.ble (Nat.add du nu) m1 with
                | false => rw [g2] at h; cases h
                | true =>
                  rw [g2] at h
                  cases g3 : leI lo1 lo0 with
                  | false => rw [g3] at h; cases h
                  | true =>
                    rw [g3] at h
                    cases g4' : leI hi0 hi1 with
                    | false => rw [g4'] at h; cases h
                    | true =>
                      rw [g4'] at h
                      cases g5 : Nat.ble ((r'.map catA).sum) 8 with
                      | false => rw [g5] at h; cases h
                      | true =>
                        rw [g5] at h
                        cases h
                        obtain ⟨w0, c0, e0, h0, hs0⟩ := rel2_cons hs
                        obtain ⟨w1, c1, e1, h1, hs1⟩ := rel2_cons hs0
                        obtain ⟨w2, c2, e2, h2, hs2⟩ := rel2_cons hs1
                        obtain ⟨w3, c3, e3, h3, hs3⟩ := rel2_cons hs2
                        obtain ⟨w4, c4, e4, h4, hs4⟩ := rel2_cons hs3
                        obtain ⟨xn, f0, k0'⟩ := vI_inv h0
                        obtain ⟨xd, f1, k1'⟩ := vI_inv h1
                        have f2 := vR_inv h2
                        obtain ⟨xs, f3, k3'⟩ := vI_inv h3
                        have f4 := vR_inv h4
                        subst e0; subst e1; subst e2; subst e3; subst e4
                        subst f0; subst f1; subst f2; subst f3; subst f4
                        have hk02 : k0 = 0 ∨ k0 = 2 := by
                          cases z0 : Nat.beq k0 0 with
                          | true => exact Or.inl (Nat.eq_of_beq_eq_true z0)
                          | false =>
                            rw [z0] at hkk
                            cases z2 : Nat.beq k0 2 with
                            | true => exact Or.inr (Nat.eq_of_beq_eq_true z2)
                            | false => rw [z2] at hkk; cases hkk
                        have hk100 : k0 < 100 := by omega
                        have hkeq0 := Nat.eq_of_beq_eq_true hk
                        obtain ⟨cA, hcA1, hcA2⟩ := rel2_get hA hq0
                        obtain ⟨lA, eA, hA'⟩ := crI_inv hk100 hcA2
                        subst eA
                        obtain ⟨cB, hcB1, hcB2⟩ := rel2_get hA hq1
                        obtain ⟨lB, eB, hB'⟩ := crI_inv (by omega) hcB2
                        subst eB
                        obtain ⟨a1, a2⟩ := srel_one hA'
                        obtain ⟨b1, b2⟩ := srel_one hB'
                        obtain ⟨p1, p2, p3⟩ := idxR_ok ht hf k0' hn
                        obtain ⟨p4, p5, p6⟩ := idxR_ok ht hf k1' hdp
                        obtain ⟨p7, p8, p9⟩ := idxR_ok ht hf k3' hsp
                        have r1 : su + nu ≤ m0 := Nat.le_of_ble_eq_true g1
                        have r2 : du + nu ≤ m1 := Nat.le_of_ble_eq_true g2
                        have r3 := leI_le g3
                        have r4 := leI_le g4'
                        have r5 := Nat.le_of_ble_eq_true g5
                        have hkeq := Nat.eq_of_beq_eq_true hk
                        subst hkeq
                        have hfits : lA.all (fun x => fits (kty k0) (.int x)) = true := by
                          refine List.all_eq_true.mpr fun x hx => ?_
                          have hx2 := a2 x hx
                          rcases hk02 with rfl | rfl
                          · rfl
                          · cases z1 : leI 0 lo0 with
                            | false =>
                              have : (bif leI 0 lo0 then leI hi0 (.ofNat 65535) else false) = true := hkk
                              rw [z1] at this
                              cases this
                            | true =>
                              have z2 : (bif leI 0 lo0 then leI hi0 (.ofNat 65535) else false) = true := hkk
                              rw [z1, cond_true] at z2
                              have z3 := leI_le z1
                              have z4 := leI_le z2
                              have z5 : (Int.ofNat 65535) = 65535 := rfl
                              show (decide (0 ≤ x) && decide (x ≤ 65535)) = true
                              simp only [Bool.and_eq_true, decide_eq_true_eq, Int32.le_iff_toInt_le]
                              show (0 : Int) ≤ x.toInt ∧ x.toInt ≤ 65535
                              omega
                        have hset : rel2 (crel ρ) (σ.set q1 (.inr (k0, .inl (cpyL lA lB xs.toNatClampNeg xd.toNatClampNeg xn.toNatClampNeg)))) A := by
                          have := rel2_set hA (i := q1) (a := (.inr (k0, .inl (cpyL lA lB xs.toNatClampNeg xd.toNatClampNeg xn.toNatClampNeg)) : SC)) (b := .inr (k0, .inl [.inr (m1, lo1, hi1)])) (arel_mk hk100 (srel_mk (by rw [cpy_len (by omega) (by omega)]; exact b1) (cpy_all (by omega) (by omega) a2 b2 r3 r4)))
                          have e7 : A.set q1 (.inr (k0, .inl [.inr (m1, lo1, hi1)])) = A := by
                            refine List.ext_getElem? fun j => ?_
                            by_cases hj : q1 = j
                            · subst hj
                              rw [List.getElem?_set_self (List.getElem?_eq_some_iff.mp hq1).1, hq1]
                            · rw [List.getElem?_set_ne hj]
                          rw [e7] at this
                          exact this
                        refine ⟨c4, _, ?_, hs4, hset, fun hp => prOk_set hp q1 _, List.length_set⟩
                        simp only [stepE, hcA1, hcB1]
                        rw [if_pos ⟨⟨trivial, hk02⟩, ⟨p7, p4, p1⟩, ⟨by omega, by omega⟩, hfits, by rw [cat_sum hs4]; exact r5⟩]
            · cases h
      · cases h
    · cases h
  | _ => exact no h
end WRITE
