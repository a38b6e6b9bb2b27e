/-! ===== abstract numbers: a constant and multiples of symbols; what is known of the symbols ===== -/
-- lists by their recursor: cheap for the kernel
noncomputable def lenQ {α : Type} (l : List α) : Nat := List.rec (motive := fun _ => Nat) (nat_lit 0) (fun _ _ ih => Nat.succ ih) l
theorem lenQ_eq {α : Type} (l : List α) : lenQ l = l.length := by
  induction l with
  | nil => rfl
  | cons a r ih => show Nat.succ (lenQ r) = _; rw [ih]; rfl
noncomputable def nthQ {α : Type} (l : List α) : Nat → Option α := List.rec (motive := fun _ => Nat → Option α) (fun _ => none) (fun a _ ih i => Nat.rec (motive := fun _ => Option α) (some a) (fun j _ => ih j) i) l
theorem nthQ_eq {α : Type} (l : List α) (i : Nat) : nthQ l i = l[i]? := by
  induction l generalizing i with
  | nil => rfl
  | cons a r ih => cases i with
    | zero => rfl
    | succ j => show nthQ r j = _; rw [ih]; rfl
noncomputable def setQ {α : Type} (l : List α) (i : Nat) (x : α) : List α := List.rec (motive := fun _ => Nat → List α) (fun _ => []) (fun a r ih i => Nat.rec (motive := fun _ => List α) (x :: r) (fun j _ => a :: ih j) i) l i
theorem setQ_eq {α : Type} (l : List α) (i : Nat) (x : α) : setQ l i x = l.set i x := by
  induction l generalizing i with
  | nil => rfl
  | cons a r ih => cases i with
    | zero => rfl
    | succ j => show a :: setQ r j x = _; rw [ih]; rfl
noncomputable def appQ {α : Type} (l m : List α) : List α := List.rec (motive := fun _ => List α) m (fun a _ ih => a :: ih) l
theorem appQ_eq {α : Type} (l m : List α) : appQ l m = l ++ m := by
  induction l with
  | nil => rfl
  | cons a r ih => show a :: appQ r m = _; rw [ih]; rfl
noncomputable def mapQ {α β : Type} (f : α → β) (l : List α) : List β := List.rec (motive := fun _ => List β) [] (fun a _ ih => f a :: ih) l
theorem mapQ_eq {α β : Type} (f : α → β) (l : List α) : mapQ f l = l.map f := by
  induction l with
  | nil => rfl
  | cons a r ih => show f a :: mapQ f r = _; rw [ih]; rfl
noncomputable def allQ {α : Type} (f : α → Bool) (l : List α) : Bool := List.rec (motive := fun _ => Bool) true (fun a _ ih => Bool.rec (motive := fun _ => Bool) false ih (f a)) l
theorem allQ_eq {α : Type} (f : α → Bool) (l : List α) : allQ f l = l.all f := by
  induction l with
  | nil => rfl
  | cons a r ih =>
    show Bool.rec (motive := fun _ => Bool) false (allQ f r) (f a) = _
    rw [ih, List.all_cons]
    cases f a <;> rfl
noncomputable def anyQ {α : Type} (f : α → Bool) (l : List α) : Bool := List.rec (motive := fun _ => Bool) false (fun a _ ih => Bool.rec (motive := fun _ => Bool) ih true (f a)) l
theorem anyQ_eq {α : Type} (f : α → Bool) (l : List α) : anyQ f l = l.any f := by
  induction l with
  | nil => rfl
  | cons a r ih =>
    show Bool.rec (motive := fun _ => Bool) (anyQ f r) true (f a) = _
    rw [ih, List.any_cons]
    cases f a <;> rfl
noncomputable def dropQ {α : Type} (n : Nat) (l : List α) : List α := Nat.rec (motive := fun _ => List α → List α) (fun l => l) (fun _ ih l => List.rec (motive := fun _ => List α) [] (fun _ r _ => ih r) l) n l
theorem dropQ_eq {α : Type} (n : Nat) (l : List α) : dropQ n l = l.drop n := by
  induction n generalizing l with
  | zero => rfl
  | succ n ih => cases l with
    | nil => rfl
    | cons a r => show dropQ n r = _; rw [ih]; rfl
noncomputable def takeQ {α : Type} (n : Nat) (l : List α) : List α := Nat.rec (motive := fun _ => List α → List α) (fun _ => []) (fun _ ih l => List.rec (motive := fun _ => List α) [] (fun a r _ => a :: ih r) l) n l
theorem takeQ_eq {α : Type} (n : Nat) (l : List α) : takeQ n l = l.take n := by
  induction n generalizing l with
  | zero => rfl
  | succ n ih => cases l with
    | nil => rfl
    | cons a r => show a :: takeQ n r = _; rw [ih]; rfl
noncomputable def revQ {α : Type} (l : List α) : List α := List.rec (motive := fun _ => List α → List α) (fun acc => acc) (fun a _ ih acc => ih (a :: acc)) l []
theorem revQ_eq {α : Type} (l : List α) : revQ l = l.reverse := by
  have key : ∀ (l acc : List α), List.rec (motive := fun _ => List α → List α) (fun acc => acc) (fun a _ ih acc => ih (a :: acc)) l acc = l.reverse ++ acc := by
    intro l
    induction l with
    | nil => intro acc; rfl
    | cons a r ih =>
      intro acc
      show List.rec (motive := fun _ => List α → List α) (fun acc => acc) (fun a _ ih acc => ih (a :: acc)) r (a :: acc) = _
      rw [ih, List.reverse_cons, List.append_assoc]
      rfl
  show List.rec (motive := fun _ => List α → List α) (fun acc => acc) (fun a _ ih acc => ih (a :: acc)) l [] = _
  rw [key, List.append_nil]
noncomputable def getDQ {α : Type} (l : List α) (i : Nat) (d : α) : α := Option.rec (motive := fun _ => α) d (fun a => a) (nthQ l i)
theorem getDQ_eq {α : Type} (l : List α) (i : Nat) (d : α) : getDQ l i d = l.getD i d := by
  unfold getDQ
  rw [nthQ_eq, List.getD_eq_getElem?_getD]
  cases l[i]? <;> rfl
theorem brecC {α : Type} (a b : α) (c : Bool) : Bool.rec (motive := fun _ => α) b a c = bif c then a else b := by cases c <;> rfl
noncomputable def iSubQ (m n : Nat) : Int := Nat.rec (motive := fun _ => Int) (.ofNat (Nat.sub m n)) (fun k _ => .negSucc k) (Nat.sub n m)
theorem iSubQ_eq (m n : Nat) : iSubQ m n = Int.subNatNat m n := by
  show Nat.rec (motive := fun _ => Int) (.ofNat (m - n)) (fun k _ => .negSucc k) (n - m) = _
  unfold Int.subNatNat
  cases n - m <;> rfl
noncomputable def iAddQ (a b : Int) : Int := Int.rec (motive := fun _ => Int) (fun m => Int.rec (motive := fun _ => Int) (fun n => .ofNat (Nat.add m n)) (fun n => iSubQ m (Nat.succ n)) b) (fun m => Int.rec (motive := fun _ => Int) (fun n => iSubQ n (Nat.succ m)) (fun n => .negSucc (Nat.succ (Nat.add m n))) b) a
theorem iAddQ_eq (a b : Int) : iAddQ a b = Int.add a b := by
  cases a with
  | ofNat m => cases b with
    | ofNat n => rfl
    | negSucc n => exact iSubQ_eq m (Nat.succ n)
  | negSucc m => cases b with
    | ofNat n => exact iSubQ_eq n (Nat.succ m)
    | negSucc n => rfl
noncomputable def iNegQ (a : Int) : Int := Int.rec (motive := fun _ => Int) (fun m => Nat.rec (motive := fun _ => Int) (.ofNat (nat_lit 0)) (fun k _ => .negSucc k) m) (fun m => .ofNat (Nat.succ m)) a
theorem iNegQ_eq (a : Int) : iNegQ a = Int.neg a := by
  cases a with
  | ofNat m => cases m <;> rfl
  | negSucc m => rfl
noncomputable def iMulQ (a b : Int) : Int := Int.rec (motive := fun _ => Int) (fun m => Int.rec (motive := fun _ => Int) (fun n => .ofNat (Nat.mul m n)) (fun n => iNegQ (.ofNat (Nat.mul m (Nat.succ n)))) b) (fun m => Int.rec (motive := fun _ => Int) (fun n => iNegQ (.ofNat (Nat.mul (Nat.succ m) n))) (fun n => .ofNat (Nat.mul (Nat.succ m) (Nat.succ n))) b) a
theorem iMulQ_eq (a b : Int) : iMulQ a b = Int.mul a b := by
  cases a with
  | ofNat m => cases b with
    | ofNat n => rfl
    | negSucc n =>
      show iNegQ (.ofNat (m * Nat.succ n)) = Int.negOfNat (m * Nat.succ n)
      cases m * Nat.succ n <;> rfl
  | negSucc m => cases b with
    | ofNat n =>
      show iNegQ (.ofNat (Nat.succ m * n)) = Int.negOfNat (Nat.succ m * n)
      cases Nat.succ m * n <;> rfl
    | negSucc n => rfl
noncomputable def optLQ {α : Type} (o : Option α) : List α := Option.rec (motive := fun _ => List α) [] (fun a => [a]) o
theorem optLQ_eq {α : Type} (o : Option α) : optLQ o = o.toList := by cases o <;> rfl
abbrev Ln : Type := Int × List (Nat × Int)
noncomputable def leI (a b : Int) : Bool :=
  (Int.rec (motive := fun _ => Bool) (fun m_7 => (Int.rec (motive := fun _ => Bool) (fun n_9 => (Nat.ble m_7 n_9)) (fun x_10 => false) b)) (fun x_8 => (Int.rec (motive := fun _ => Bool) (fun x_11 => true) (fun n_12 => (Nat.ble n_12 x_8)) b)) a)
theorem leI_def (a b : Int) : leI a b = (match a, b with
  | .ofNat m, .ofNat n => Nat.ble m n
  | .negSucc _, .ofNat _ => true
  | .ofNat _, .negSucc _ => false
  | .negSucc m, .negSucc n => Nat.ble n m) := by
  show (Int.rec (motive := fun _ => Bool) (fun m_1 => (Int.rec (motive := fun _ => Bool) (fun n_3 => (Nat.ble m_1 n_3)) (fun x_4 => false) b)) (fun x_2 => (Int.rec (motive := fun _ => Bool) (fun x_5 => true) (fun n_6 => (Nat.ble n_6 x_2)) b)) a) = _
  all_goals
    cases a with
    | ofNat y_13 =>
      try dsimp only [cond_false, cond_true]
      all_goals
        cases b with
        | ofNat y_14 =>
          try dsimp only [cond_false, cond_true]
          all_goals rfl
        | negSucc y_15 =>
          try dsimp only [cond_false, cond_true]
          all_goals rfl
    | negSucc y_16 =>
      try dsimp only [cond_false, cond_true]
      all_goals
        cases b with
        | ofNat y_17 =>
          try dsimp only [cond_false, cond_true]
          all_goals rfl
        | negSucc y_18 =>
          try dsimp only [cond_false, cond_true]
          all_goals rfl
theorem leI_iff {a b : Int} : leI a b = true ↔ a ≤ b := by
  cases a with
  | ofNat m =>
    cases b with
    | ofNat n =>
      have e : leI (Int.ofNat m) (Int.ofNat n) = Nat.ble m n := rfl
      rw [e, Nat.ble_eq, Int.ofNat_eq_natCast, Int.ofNat_eq_natCast]
      omega
    | negSucc n =>
      have e : leI (Int.ofNat m) (Int.negSucc n) = false := rfl
      rw [e, Int.ofNat_eq_natCast, Int.negSucc_eq]
      exact ⟨fun h => (by cases h), fun h => (by omega)⟩
  | negSucc m =>
    cases b with
    | ofNat n =>
      have e : leI (Int.negSucc m) (Int.ofNat n) = true := rfl
      rw [e, Int.ofNat_eq_natCast, Int.negSucc_eq]
      exact ⟨fun h => (by omega), fun h => rfl⟩
    | negSucc n =>
      have e : leI (Int.negSucc m) (Int.negSucc n) = Nat.ble n m := rfl
      rw [e, Nat.ble_eq, Int.negSucc_eq, Int.negSucc_eq]
      omega
theorem leI_le {a b : Int} (h : leI a b = true) : a ≤ b := leI_iff.mp h
noncomputable def isZ (a : Int) : Bool :=
  (Int.rec (motive := fun _ => Bool) (fun x_22 => (Nat.rec (motive := fun _ => Bool) true (fun x_24 _ => false) x_22)) (fun x_23 => false) a)
theorem isZ_def (a : Int) : isZ a = (match a with
  | .ofNat 0 => true
  | _ => false) := by
  show (Int.rec (motive := fun _ => Bool) (fun x_19 => (Nat.rec (motive := fun _ => Bool) true (fun x_21 _ => false) x_19)) (fun x_20 => false) a) = _
  all_goals
    cases a with
    | ofNat y_25 =>
      try dsimp only [cond_false, cond_true]
      all_goals
        cases y_25 with
        | zero =>
          try dsimp only [cond_false, cond_true]
          all_goals rfl
        | succ y_26 =>
          try dsimp only [cond_false, cond_true]
          all_goals rfl
    | negSucc y_27 =>
      try dsimp only [cond_false, cond_true]
      all_goals rfl
theorem isZ_eq {a : Int} (h : isZ a = true) : a = 0 := by
  rw [isZ_def] at h
  split at h
  · rfl
  · cases h
noncomputable def eqI (a b : Int) : Bool :=
  (Int.rec (motive := fun _ => Bool) (fun m_34 => (Int.rec (motive := fun _ => Bool) (fun n_36 => (Nat.beq m_34 n_36)) (fun x_37 => false) b)) (fun m_35 => (Int.rec (motive := fun _ => Bool) (fun x_38 => false) (fun n_39 => (Nat.beq m_35 n_39)) b)) a)
theorem eqI_def (a b : Int) : eqI a b = (match a, b with
  | .ofNat m, .ofNat n => Nat.beq m n
  | .negSucc m, .negSucc n => Nat.beq m n
  | _, _ => false) := by
  show (Int.rec (motive := fun _ => Bool) (fun m_28 => (Int.rec (motive := fun _ => Bool) (fun n_30 => (Nat.beq m_28 n_30)) (fun x_31 => false) b)) (fun m_29 => (Int.rec (motive := fun _ => Bool) (fun x_32 => false) (fun n_33 => (Nat.beq m_29 n_33)) b)) a) = _
  all_goals
    cases a with
    | ofNat y_40 =>
      try dsimp only [cond_false, cond_true]
      all_goals
        cases b with
        | ofNat y_41 =>
          try dsimp only [cond_false, cond_true]
          all_goals rfl
        | negSucc y_42 =>
          try dsimp only [cond_false, cond_true]
          all_goals rfl
    | negSucc y_43 =>
      try dsimp only [cond_false, cond_true]
      all_goals
        cases b with
        | ofNat y_44 =>
          try dsimp only [cond_false, cond_true]
          all_goals rfl
        | negSucc y_45 =>
          try dsimp only [cond_false, cond_true]
          all_goals rfl
theorem eqI_eq {a b : Int} (h : eqI a b = true) : a = b := by
  rw [eqI_def] at h
  split at h
  · rw [Nat.eq_of_beq_eq_true h]
  · rw [Nat.eq_of_beq_eq_true h]
  · cases h
noncomputable def evT (ρ : Nat → Int) : List (Nat × Int) → Int
  | [] => 0
  | (s, k) :: r => k * ρ s + evT ρ r
noncomputable def ev (ρ : Nat → Int) (e : Ln) : Int := e.1 + evT ρ e.2
noncomputable def insT_a0 :=
  fun (t_46 : Nat) (m_47 : Int) (ih : List (Nat × Int)) (s : Nat) (k : Int) (t_0 : List (Nat × Int)) => ((Bool.rec (motive := fun _ => List (Nat × Int)) ((t_46, m_47) :: (ih)) ((s, k) :: ((t_46, m_47) :: t_0)) (Nat.ble s t_46)) : List (Nat × Int))
noncomputable def insT_a1 :=
  fun (t_46 : Nat) (k : Int) (m_47 : Int) (t_0 : List (Nat × Int)) => ((Bool.rec (motive := fun _ => List (Nat × Int)) ((t_46, (iAddQ k m_47)) :: t_0) t_0 (isZ (iAddQ k m_47))) : List (Nat × Int))
noncomputable def insT_a2 :=
  fun (t_46 : Nat) (m_47 : Int) (ih : List (Nat × Int)) (s : Nat) (k : Int) (t_0 : List (Nat × Int)) => ((Bool.rec (motive := fun _ => List (Nat × Int)) (insT_a0 t_46 m_47 ih s k t_0) (insT_a1 t_46 k m_47 t_0) (Nat.beq s t_46)) : List (Nat × Int))
noncomputable def insT (s : Nat) (k : Int) : List (Nat × Int) → List (Nat × Int) :=
  fun e_0 => List.rec (motive := fun _ => List (Nat × Int)) [(s, k)] (fun h_0 t_0 ih => (Prod.rec (motive := fun _ => List (Nat × Int)) (fun t_46 m_47 => (insT_a2 t_46 m_47 ih s k t_0)) h_0)) e_0 
theorem insT_def (s : Nat) (k : Int) (e_0 : List (Nat × Int)) : insT s k e_0 = (match e_0 with
  | [] => [(s, k)]
  | (t, m) :: r => bif Nat.beq s t then (bif isZ (Int.add k m) then r else (t, Int.add k m) :: r) else bif Nat.ble s t then (s, k) :: (t, m) :: r else (t, m) :: insT s k r) := by
  cases e_0 with
  | nil =>
    show [(s, k)] = _
    try simp only [iAddQ_eq, iMulQ_eq, iNegQ_eq, lenQ_eq, nthQ_eq, setQ_eq, appQ_eq, mapQ_eq, allQ_eq, anyQ_eq, dropQ_eq, takeQ_eq, revQ_eq, getDQ_eq, optLQ_eq, brecC]
    all_goals rfl
  | cons h_0 t_0 =>
    show (Prod.rec (motive := fun _ => List (Nat × Int)) (fun t_48 m_49 => (Bool.rec (motive := fun _ => List (Nat × Int)) (Bool.rec (motive := fun _ => List (Nat × Int)) ((t_48, m_49) :: (insT s k t_0)) ((s, k) :: ((t_48, m_49) :: t_0)) (Nat.ble s t_48)) (Bool.rec (motive := fun _ => List (Nat × Int)) ((t_48, (iAddQ k m_49)) :: t_0) t_0 (isZ (iAddQ k m_49))) (Nat.beq s t_48))) h_0) = _
    try simp only [iAddQ_eq, iMulQ_eq, iNegQ_eq, lenQ_eq, nthQ_eq, setQ_eq, appQ_eq, mapQ_eq, allQ_eq, anyQ_eq, dropQ_eq, takeQ_eq, revQ_eq, getDQ_eq, optLQ_eq, brecC]
    all_goals
      cases h_0 with
      | mk y_50 y_51 =>
        try dsimp only [cond_false, cond_true]
        all_goals
          cases hq_2 : (Nat.beq s y_50) with
          | false =>
            try dsimp only [cond_false, cond_true]
            all_goals
              cases hq_3 : (Nat.ble s y_50) with
              | false =>
                try dsimp only [cond_false, cond_true]
                all_goals rfl
              | true =>
                try dsimp only [cond_false, cond_true]
                all_goals rfl
          | true =>
            try dsimp only [cond_false, cond_true]
            all_goals
              cases hq_4 : (isZ ((Int.add k y_51))) with
              | false =>
                try dsimp only [cond_false, cond_true]
                all_goals rfl
              | true =>
                try dsimp only [cond_false, cond_true]
                all_goals rfl
theorem evT_ins (ρ : Nat → Int) (s : Nat) (k : Int) (l : List (Nat × Int)) : evT ρ (insT s k l) = k * ρ s + evT ρ l := by
  induction l with
  | nil => rfl
  | cons q r ih =>
    obtain ⟨t, m⟩ := q
    rw [insT_def]
    show evT ρ (bif Nat.beq s t then (bif isZ (Int.add k m) then r else (t, Int.add k m) :: r) else bif Nat.ble s t then (s, k) :: (t, m) :: r else (t, m) :: insT s k r) = k * ρ s + (m * ρ t + evT ρ r)
    cases h1 : Nat.beq s t with
    | true =>
      have := Nat.eq_of_beq_eq_true h1
      subst this
      cases h2 : isZ (Int.add k m) with
      | true =>
        have h3 : k + m = 0 := isZ_eq h2
        have h4 : k * ρ s + m * ρ s = 0 := by rw [← Int.add_mul, h3, Int.zero_mul]
        show evT ρ r = _
        omega
      | false =>
        show (k + m) * ρ s + evT ρ r = _
        rw [Int.add_mul]
        omega
    | false =>
      cases h2 : Nat.ble s t with
      | true => rfl
      | false =>
        show m * ρ t + evT ρ (insT s k r) = _
        rw [ih]
        omega
noncomputable def addT (a : List (Nat × Int)) : List (Nat × Int) → List (Nat × Int) :=
  fun e_0 => List.rec (motive := fun _ => List (Nat × Int)) a (fun h_0 t_0 ih => (Prod.rec (motive := fun _ => List (Nat × Int)) (fun s_52 k_53 => (insT s_52 k_53 (ih))) h_0)) e_0 
theorem addT_def (a : List (Nat × Int)) (e_0 : List (Nat × Int)) : addT a e_0 = (match e_0 with
  | [] => a
  | (s, k) :: r => insT s k (addT a r)) := by
  cases e_0 with
  | nil =>
    show a = _
    try simp only [iAddQ_eq, iMulQ_eq, iNegQ_eq, lenQ_eq, nthQ_eq, setQ_eq, appQ_eq, mapQ_eq, allQ_eq, anyQ_eq, dropQ_eq, takeQ_eq, revQ_eq, getDQ_eq, optLQ_eq, brecC]
    all_goals rfl
  | cons h_0 t_0 =>
    show (Prod.rec (motive := fun _ => List (Nat × Int)) (fun s_54 k_55 => (insT s_54 k_55 (addT a t_0))) h_0) = _
    try simp only [iAddQ_eq, iMulQ_eq, iNegQ_eq, lenQ_eq, nthQ_eq, setQ_eq, appQ_eq, mapQ_eq, allQ_eq, anyQ_eq, dropQ_eq, takeQ_eq, revQ_eq, getDQ_eq, optLQ_eq, brecC]
    all_goals
      cases h_0 with
      | mk y_56 y_57 =>
        try dsimp only [cond_false, cond_true]
        all_goals rfl
theorem evT_add (ρ : Nat → Int) (a b : List (Nat × Int)) : evT ρ (addT a b) = evT ρ a + evT ρ b := by
  induction b with
  | nil => show evT ρ a = evT ρ a + 0; omega
  | cons q r ih =>
    obtain ⟨s, k⟩ := q
    show evT ρ (insT s k (addT a r)) = evT ρ a + (k * ρ s + evT ρ r)
    rw [evT_ins, ih]
    omega
noncomputable def sclT (k : Int) : List (Nat × Int) → List (Nat × Int) :=
  fun e_0 => List.rec (motive := fun _ => List (Nat × Int)) [] (fun h_0 t_0 ih => (Prod.rec (motive := fun _ => List (Nat × Int)) (fun s_58 m_59 => ((s_58, (iMulQ k m_59)) :: (ih))) h_0)) e_0 
theorem sclT_def (k : Int) (e_0 : List (Nat × Int)) : sclT k e_0 = (match e_0 with
  | [] => []
  | (s, m) :: r => (s, Int.mul k m) :: sclT k r) := by
  cases e_0 with
  | nil =>
    show [] = _
    try simp only [iAddQ_eq, iMulQ_eq, iNegQ_eq, lenQ_eq, nthQ_eq, setQ_eq, appQ_eq, mapQ_eq, allQ_eq, anyQ_eq, dropQ_eq, takeQ_eq, revQ_eq, getDQ_eq, optLQ_eq, brecC]
    all_goals rfl
  | cons h_0 t_0 =>
    show (Prod.rec (motive := fun _ => List (Nat × Int)) (fun s_60 m_61 => ((s_60, (iMulQ k m_61)) :: (sclT k t_0))) h_0) = _
    try simp only [iAddQ_eq, iMulQ_eq, iNegQ_eq, lenQ_eq, nthQ_eq, setQ_eq, appQ_eq, mapQ_eq, allQ_eq, anyQ_eq, dropQ_eq, takeQ_eq, revQ_eq, getDQ_eq, optLQ_eq, brecC]
    all_goals
      cases h_0 with
      | mk y_62 y_63 =>
        try dsimp only [cond_false, cond_true]
        all_goals rfl
theorem evT_scl (ρ : Nat → Int) (k : Int) (a : List (Nat × Int)) : evT ρ (sclT k a) = k * evT ρ a := by
  induction a with
  | nil => show (0 : Int) = k * 0; omega
  | cons q r ih =>
    obtain ⟨s, m⟩ := q
    rw [sclT_def]
    show (k * m) * ρ s + evT ρ (sclT k r) = k * (m * ρ s + evT ρ r)
    rw [ih, Int.mul_add, Int.mul_assoc]
noncomputable def kL (c : Int) : Ln := (c, [])
noncomputable def sL (s : Nat) : Ln := (0, [(s, 1)])
noncomputable def addL (a b : Ln) : Ln :=
  ((iAddQ a.1 b.1), (addT a.2 b.2))
theorem addL_def (a b : Ln) : addL a b = (Int.add a.1 b.1, addT a.2 b.2) := by
  show ((iAddQ a.1 b.1), (addT a.2 b.2)) = _
  try simp only [iAddQ_eq, iMulQ_eq, iNegQ_eq, lenQ_eq, nthQ_eq, setQ_eq, appQ_eq, mapQ_eq, allQ_eq, anyQ_eq, dropQ_eq, takeQ_eq, revQ_eq, getDQ_eq, optLQ_eq, brecC]
  all_goals rfl
noncomputable def sclL (k : Int) (a : Ln) : Ln :=
  (Bool.rec (motive := fun _ => Ln) ((iMulQ k a.1), (sclT k a.2)) (.ofNat (nat_lit 0), []) (isZ k))
theorem sclL_def (k : Int) (a : Ln) : sclL k a = bif isZ k then (0, []) else (Int.mul k a.1, sclT k a.2) := by
  show (Bool.rec (motive := fun _ => Ln) ((iMulQ k a.1), (sclT k a.2)) (.ofNat (nat_lit 0), []) (isZ k)) = _
  try simp only [iAddQ_eq, iMulQ_eq, iNegQ_eq, lenQ_eq, nthQ_eq, setQ_eq, appQ_eq, mapQ_eq, allQ_eq, anyQ_eq, dropQ_eq, takeQ_eq, revQ_eq, getDQ_eq, optLQ_eq, brecC]
  all_goals
    cases hq_1 : (isZ k) with
    | false =>
      try dsimp only [cond_false, cond_true]
      all_goals rfl
    | true =>
      try dsimp only [cond_false, cond_true]
      all_goals rfl
noncomputable def subL (a b : Ln) : Ln :=
  (addL a (sclL (.negSucc (nat_lit 0)) b))
theorem subL_def (a b : Ln) : subL a b = addL a (sclL (.negSucc 0) b) := by
  show (addL a (sclL (.negSucc (nat_lit 0)) b)) = _
  all_goals rfl
noncomputable def pluL (a : Ln) (c : Int) : Ln :=
  ((iAddQ a.1 c), a.2)
theorem pluL_def (a : Ln) (c : Int) : pluL a c = (Int.add a.1 c, a.2) := by
  show ((iAddQ a.1 c), a.2) = _
  try simp only [iAddQ_eq, iMulQ_eq, iNegQ_eq, lenQ_eq, nthQ_eq, setQ_eq, appQ_eq, mapQ_eq, allQ_eq, anyQ_eq, dropQ_eq, takeQ_eq, revQ_eq, getDQ_eq, optLQ_eq, brecC]
  all_goals rfl
theorem ev_k (ρ : Nat → Int) (c : Int) : ev ρ (kL c) = c := by show c + 0 = c; omega
theorem ev_s (ρ : Nat → Int) (s : Nat) : ev ρ (sL s) = ρ s := by show 0 + (1 * ρ s + 0) = ρ s; omega
theorem ev_add (ρ : Nat → Int) (a b : Ln) : ev ρ (addL a b) = ev ρ a + ev ρ b := by
  rw [addL_def]
  show (a.1 + b.1) + evT ρ (addT a.2 b.2) = (a.1 + evT ρ a.2) + (b.1 + evT ρ b.2)
  rw [evT_add]
  omega
theorem ev_scl (ρ : Nat → Int) (k : Int) (a : Ln) : ev ρ (sclL k a) = k * ev ρ a := by
  rw [sclL_def]
  cases h : isZ k with
  | true => rw [isZ_eq h, Int.zero_mul]; rfl
  | false =>
    show k * a.1 + evT ρ (sclT k a.2) = k * (a.1 + evT ρ a.2)
    rw [evT_scl, Int.mul_add]
theorem ev_sub (ρ : Nat → Int) (a b : Ln) : ev ρ (subL a b) = ev ρ a - ev ρ b := by
  rw [subL_def]
  rw [ev_add, ev_scl]
  show ev ρ a + (-1) * ev ρ b = _
  omega
theorem ev_plu (ρ : Nat → Int) (a : Ln) (c : Int) : ev ρ (pluL a c) = ev ρ a + c := by
  rw [pluL_def]
  show (a.1 + c) + evT ρ a.2 = (a.1 + evT ρ a.2) + c
  omega
-- what is known
abbrev TbL : Type := List (Nat × Int × Int)
/-- bounds: what came last, in a list; below it a function -/
abbrev Tb : Type := TbL × (Nat → Option (Int × Int))
noncomputable def tbIns (s : Nat) (lo hi : Int) (tab : Tb) : Tb :=
  (((s, lo, hi) :: tab.1), tab.2)
theorem tbIns_def (s : Nat) (lo hi : Int) (tab : Tb) : tbIns s lo hi tab = ((s, lo, hi) :: tab.1, tab.2) := by
  show (((s, lo, hi) :: tab.1), tab.2) = _
  all_goals rfl
noncomputable def tbLkL_a0 :=
  fun (ih : Option (Int × Int)) (b_65 : (Int × Int)) (s : Nat) (t_64 : Nat) => ((Bool.rec (motive := fun _ => Option (Int × Int)) (ih) (some b_65) (Nat.beq s t_64)) : Option (Int × Int))
noncomputable def tbLkL (s : Nat) (d : Option (Int × Int)) : TbL → Option (Int × Int) :=
  fun e_0 => List.rec (motive := fun _ => Option (Int × Int)) d (fun h_0 t_0 ih => (Prod.rec (motive := fun _ => Option (Int × Int)) (fun t_64 b_65 => (tbLkL_a0 ih b_65 s t_64)) h_0)) e_0 
theorem tbLkL_def (s : Nat) (d : Option (Int × Int)) (e_0 : TbL) : tbLkL s d e_0 = (match e_0 with
  | [] => d
  | (t, b) :: r => bif Nat.beq s t then some b else tbLkL s d r) := by
  cases e_0 with
  | nil =>
    show d = _
    try simp only [iAddQ_eq, iMulQ_eq, iNegQ_eq, lenQ_eq, nthQ_eq, setQ_eq, appQ_eq, mapQ_eq, allQ_eq, anyQ_eq, dropQ_eq, takeQ_eq, revQ_eq, getDQ_eq, optLQ_eq, brecC]
    all_goals rfl
  | cons h_0 t_0 =>
    show (Prod.rec (motive := fun _ => Option (Int × Int)) (fun t_66 b_67 => (Bool.rec (motive := fun _ => Option (Int × Int)) (tbLkL s d t_0) (some b_67) (Nat.beq s t_66))) h_0) = _
    try simp only [iAddQ_eq, iMulQ_eq, iNegQ_eq, lenQ_eq, nthQ_eq, setQ_eq, appQ_eq, mapQ_eq, allQ_eq, anyQ_eq, dropQ_eq, takeQ_eq, revQ_eq, getDQ_eq, optLQ_eq, brecC]
    all_goals
      cases h_0 with
      | mk y_68 y_69 =>
        try dsimp only [cond_false, cond_true]
        all_goals
          cases hq_2 : (Nat.beq s y_68) with
          | false =>
            try dsimp only [cond_false, cond_true]
            all_goals rfl
          | true =>
            try dsimp only [cond_false, cond_true]
            all_goals rfl
noncomputable def tbLk (s : Nat) (tab : Tb) : Option (Int × Int) :=
  (tbLkL s (tab.2 s) tab.1)
theorem tbLk_def (s : Nat) (tab : Tb) : tbLk s tab = tbLkL s (tab.2 s) tab.1 := by
  show (tbLkL s (tab.2 s) tab.1) = _
  all_goals rfl
noncomputable def tOkL (ρ : Nat → Int) (tab : TbL) : Prop := ∀ q ∈ tab, q.2.1 ≤ ρ q.1 ∧ ρ q.1 ≤ q.2.2
noncomputable def tOk (ρ : Nat → Int) (tab : Tb) : Prop := tOkL ρ tab.1 ∧ ∀ s b, tab.2 s = some b → b.1 ≤ ρ s ∧ ρ s ≤ b.2
noncomputable def fOk (ρ : Nat → Int) (fs : List Ln) : Prop := ∀ f ∈ fs, ev ρ f ≤ 0
theorem tbLkL_ok {ρ : Nat → Int} {l : TbL} (h : tOkL ρ l) {s : Nat} {d : Option (Int × Int)} {b : Int × Int} (hl : tbLkL s d l = some b) : d = some b ∨ (b.1 ≤ ρ s ∧ ρ s ≤ b.2) := by
  induction l with
  | nil => exact Or.inl hl
  | cons q r ih =>
    obtain ⟨t, c⟩ := q
    rw [tbLkL_def] at hl
    try dsimp only at hl
    cases h1 : Nat.beq s t with
    | true =>
      rw [h1] at hl
      cases hl
      have := Nat.eq_of_beq_eq_true h1
      subst this
      exact Or.inr (h _ List.mem_cons_self)
    | false =>
      rw [h1] at hl
      exact ih (fun q hq => h q (List.mem_cons_of_mem _ hq)) hl
theorem tbLk_ok {ρ : Nat → Int} {tab : Tb} (h : tOk ρ tab) {s : Nat} {b : Int × Int} (hl : tbLk s tab = some b) : b.1 ≤ ρ s ∧ ρ s ≤ b.2 := by
  have hl' : tbLkL s (tab.2 s) tab.1 = some b := hl
  rcases tbLkL_ok h.1 hl' with q | q
  · exact h.2 s b q
  · exact q
/-- a sorted list as a function: 2 ^ n of its entries -/
noncomputable def balT_a0 :=
  fun (s_72 : Nat) (b_73 : (Int × Int)) (r_71 : List (Nat × Int × Int)) => ((s_72, (fun t => (Bool.rec (motive := fun _ => _) none (some b_73) (Nat.beq t s_72))), r_71) : Nat × (Nat → Option (Int × Int)) × TbL)
noncomputable def balT_a1 :=
  fun (m_74 : Nat) (f_76 : (Nat → Option (Int × Int))) (f2_82 : (Nat → Option (Int × Int))) (m2_80 : Nat) (r2_83 : TbL) => ((m_74, (fun t => (Bool.rec (motive := fun _ => _) (f_76 t) (f2_82 t) (Nat.ble m2_80 t))), r2_83) : Nat × (Nat → Option (Int × Int)) × TbL)
noncomputable def balT  : Nat → TbL → Nat × (Nat → Option (Int × Int)) × TbL :=
  fun e_0 e_1 => Nat.rec (motive := fun _ => TbL → Nat × (Nat → Option (Int × Int)) × TbL) (fun e_1 => (List.rec (motive := fun _ => Nat × (Nat → Option (Int × Int)) × TbL) ((nat_lit 0), (fun _ => none), []) (fun x_70 r_71 _ => (Prod.rec (motive := fun _ => Nat × (Nat → Option (Int × Int)) × TbL) (fun s_72 b_73 => (balT_a0 s_72 b_73 r_71)) x_70)) e_1)) (fun t_0 ih e_1 => (Prod.rec (motive := fun _ => Nat × (Nat → Option (Int × Int)) × TbL) (fun m_74 x_75 => (Prod.rec (motive := fun _ => Nat × (Nat → Option (Int × Int)) × TbL) (fun f_76 x_77 => (List.rec (motive := fun _ => Nat × (Nat → Option (Int × Int)) × TbL) (m_74, f_76, []) (fun q_78 r_79 _ => (Prod.rec (motive := fun _ => Nat × (Nat → Option (Int × Int)) × TbL) (fun m2_80 x_81 => (Prod.rec (motive := fun _ => Nat × (Nat → Option (Int × Int)) × TbL) (fun f2_82 r2_83 => (balT_a1 m_74 f_76 f2_82 m2_80 r2_83)) x_81)) (ih (q_78 :: r_79)))) x_77)) x_75)) (ih e_1))) e_0 e_1
theorem balT_def  (e_0 : Nat) (e_1 : TbL) : balT  e_0 e_1 = (match e_0, e_1 with
  | 0, [] => (0, fun _ => none, [])
  | 0, (s, b) :: r => (s, fun t => bif Nat.beq t s then some b else none, r)
  | n + 1, l => match balT n l with
    | (m, f, []) => (m, f, [])
    | (m, f, q :: r) => match balT n (q :: r) with
      | (m2, f2, r2) => (m, fun t => bif Nat.ble m2 t then f2 t else f t, r2)) := by
  cases e_0 with
  | zero =>
    show (List.rec (motive := fun _ => Nat × (Nat → Option (Int × Int)) × TbL) ((nat_lit 0), (fun _ => none), []) (fun x_84 r_85 _ => (Prod.rec (motive := fun _ => Nat × (Nat → Option (Int × Int)) × TbL) (fun s_86 b_87 => (s_86, (fun t => (Bool.rec (motive := fun _ => _) none (some b_87) (Nat.beq t s_86))), r_85)) x_84)) e_1) = _
    try simp only [iAddQ_eq, iMulQ_eq, iNegQ_eq, lenQ_eq, nthQ_eq, setQ_eq, appQ_eq, mapQ_eq, allQ_eq, anyQ_eq, dropQ_eq, takeQ_eq, revQ_eq, getDQ_eq, optLQ_eq, brecC]
    all_goals
      cases e_1 with
      | nil =>
        try dsimp only [cond_false, cond_true]
        all_goals rfl
      | cons y_88 y_89 =>
        try dsimp only [cond_false, cond_true]
        all_goals
          cases y_88 with
          | mk y_90 y_91 =>
            try dsimp only [cond_false, cond_true]
            all_goals rfl
  | succ t_0 =>
    show (Prod.rec (motive := fun _ => Nat × (Nat → Option (Int × Int)) × TbL) (fun m_92 x_93 => (Prod.rec (motive := fun _ => Nat × (Nat → Option (Int × Int)) × TbL) (fun f_94 x_95 => (List.rec (motive := fun _ => Nat × (Nat → Option (Int × Int)) × TbL) (m_92, f_94, []) (fun q_96 r_97 _ => (Prod.rec (motive := fun _ => Nat × (Nat → Option (Int × Int)) × TbL) (fun m2_98 x_99 => (Prod.rec (motive := fun _ => Nat × (Nat → Option (Int × Int)) × TbL) (fun f2_100 r2_101 => (m_92, (fun t => (Bool.rec (motive := fun _ => _) (f_94 t) (f2_100 t) (Nat.ble m2_98 t))), r2_101)) x_99)) (balT t_0 (q_96 :: r_97)))) x_95)) x_93)) (balT t_0 e_1)) = _
    try simp only [iAddQ_eq, iMulQ_eq, iNegQ_eq, lenQ_eq, nthQ_eq, setQ_eq, appQ_eq, mapQ_eq, allQ_eq, anyQ_eq, dropQ_eq, takeQ_eq, revQ_eq, getDQ_eq, optLQ_eq, brecC]
    all_goals
      cases hq_3 : (balT t_0 e_1) with
      | mk y_102 y_103 =>
        try dsimp only [cond_false, cond_true]
        all_goals
          cases y_103 with
          | mk y_104 y_105 =>
            try dsimp only [cond_false, cond_true]
            all_goals
              cases y_105 with
              | nil =>
                try dsimp only [cond_false, cond_true]
                all_goals rfl
              | cons y_106 y_107 =>
                try dsimp only [cond_false, cond_true]
                all_goals
                  cases hq_6 : (balT t_0 ((y_106 :: y_107))) with
                  | mk y_108 y_109 =>
                    try dsimp only [cond_false, cond_true]
                    all_goals
                      cases y_109 with
                      | mk y_110 y_111 =>
                        try dsimp only [cond_false, cond_true]
                        all_goals rfl
theorem balT_ok : ∀ (n : Nat) (l : TbL), (∀ q ∈ (balT n l).2.2, q ∈ l) ∧ ∀ t b, (balT n l).2.1 t = some b → (t, b) ∈ l := by
  intro n
  induction n with
  | zero =>
    intro l
    cases l with
    | nil => exact ⟨fun q hq => (by rw [balT_def] at hq; exact hq), fun t b h => by rw [balT_def] at h; cases h⟩
    | cons q r =>
      obtain ⟨s, c⟩ := q
      refine ⟨fun q hq => (by rw [balT_def] at hq; exact List.mem_cons_of_mem _ hq), fun t b h => ?_⟩
      rw [balT_def] at h
      have h' : (bif Nat.beq t s then some c else none) = some b := h
      cases h1 : Nat.beq t s with
      | true =>
        rw [h1] at h'
        cases h'
        have := Nat.eq_of_beq_eq_true h1
        subst this
        exact List.mem_cons_self
      | false => rw [h1] at h'; cases h'
  | succ n ih =>
    intro l
    have e : balT (n + 1) l = (match balT n l with
      | (m, f, []) => (m, f, [])
      | (m, f, q :: r) => match balT n (q :: r) with
        | (m2, f2, r2) => (m, fun t => bif Nat.ble m2 t then f2 t else f t, r2)) := balT_def (n + 1) l
    have i1 := ih l
    cases hb : balT n l with
    | mk m x =>
      obtain ⟨f, r1⟩ := x
      rw [hb] at e i1
      cases r1 with
      | nil => rw [e]; exact i1
      | cons q r =>
        have i2 := ih (q :: r)
        cases hb2 : balT n (q :: r) with
        | mk m2 y =>
          obtain ⟨f2, r2⟩ := y
          try dsimp only at e
          rw [hb2] at e i2
          rw [e]
          refine ⟨fun p hp => i1.1 p (i2.1 p hp), fun t b h => ?_⟩
          have h' : (bif Nat.ble m2 t then f2 t else f t) = some b := h
          cases h1 : Nat.ble m2 t with
          | true => rw [h1] at h'; exact i1.1 _ (i2.2 t b h')
          | false => rw [h1] at h'; exact i1.2 t b h'
noncomputable def tbOf (l : TbL) : Tb :=
  ([], (balT (nat_lit 9) l).2.1)
theorem tbOf_def (l : TbL) : tbOf l = ([], (balT 9 l).2.1) := by
  show ([], (balT (nat_lit 9) l).2.1) = _
  all_goals rfl
theorem tbOf_ok {ρ : Nat → Int} {l : TbL} (h : tOkL ρ l) : tOk ρ (tbOf l) := ⟨fun q hq => (by cases hq), fun s b hb => h (s, b) ((balT_ok 9 l).2 s b hb)⟩
noncomputable def ubT_a0 :=
  fun (ih : Int → Option Int) (e_1 : Int) (k_113 : Int) (lo_115 : Int) (hi_116 : Int) => ((ih (iAddQ e_1 (iMulQ k_113 (Bool.rec (motive := fun _ => _) lo_115 hi_116 (leI (.ofNat (nat_lit 0)) k_113))))) : Option Int)
noncomputable def ubT (tab : Tb) : List (Nat × Int) → Int → Option Int :=
  fun e_0 e_1 => List.rec (motive := fun _ => Int → Option Int) (fun e_1 => (some e_1)) (fun h_0 t_0 ih e_1 => (Prod.rec (motive := fun _ => Option Int) (fun s_112 k_113 => (Option.rec (motive := fun _ => Option Int) none (fun x_114 => (Prod.rec (motive := fun _ => Option Int) (fun lo_115 hi_116 => (ubT_a0 ih e_1 k_113 lo_115 hi_116)) x_114)) (tbLk s_112 tab))) h_0)) e_0 e_1
theorem ubT_def (tab : Tb) (e_0 : List (Nat × Int)) (e_1 : Int) : ubT tab e_0 e_1 = (match e_0, e_1 with
  | [], acc => some acc
  | (s, k) :: r, acc => match tbLk s tab with
    | some (lo, hi) => ubT tab r (Int.add acc (Int.mul k (bif leI 0 k then hi else lo)))
    | none => none) := by
  cases e_0 with
  | nil =>
    show (some e_1) = _
    try simp only [iAddQ_eq, iMulQ_eq, iNegQ_eq, lenQ_eq, nthQ_eq, setQ_eq, appQ_eq, mapQ_eq, allQ_eq, anyQ_eq, dropQ_eq, takeQ_eq, revQ_eq, getDQ_eq, optLQ_eq, brecC]
    all_goals rfl
  | cons h_0 t_0 =>
    show (Prod.rec (motive := fun _ => Option Int) (fun s_117 k_118 => (Option.rec (motive := fun _ => Option Int) none (fun x_119 => (Prod.rec (motive := fun _ => Option Int) (fun lo_120 hi_121 => (ubT tab t_0 (iAddQ e_1 (iMulQ k_118 (Bool.rec (motive := fun _ => _) lo_120 hi_121 (leI (.ofNat (nat_lit 0)) k_118)))))) x_119)) (tbLk s_117 tab))) h_0) = _
    try simp only [iAddQ_eq, iMulQ_eq, iNegQ_eq, lenQ_eq, nthQ_eq, setQ_eq, appQ_eq, mapQ_eq, allQ_eq, anyQ_eq, dropQ_eq, takeQ_eq, revQ_eq, getDQ_eq, optLQ_eq, brecC]
    all_goals
      cases h_0 with
      | mk y_122 y_123 =>
        try dsimp only [cond_false, cond_true]
        all_goals
          cases hq_2 : (tbLk y_122 tab) with
          | none =>
            try dsimp only [cond_false, cond_true]
            all_goals rfl
          | some y_124 =>
            try dsimp only [cond_false, cond_true]
            all_goals
              cases y_124 with
              | mk y_125 y_126 =>
                try dsimp only [cond_false, cond_true]
                all_goals rfl
noncomputable def ub (tab : Tb) (e : Ln) : Option Int :=
  (ubT tab e.2 e.1)
theorem ub_def (tab : Tb) (e : Ln) : ub tab e = ubT tab e.2 e.1 := by
  show (ubT tab e.2 e.1) = _
  all_goals rfl
theorem mul_le_hi {k x lo hi : Int} (h : lo ≤ x ∧ x ≤ hi) : k * x ≤ k * (bif leI 0 k then hi else lo) := by
  cases h1 : leI 0 k with
  | true => exact Int.mul_le_mul_of_nonneg_left h.2 (leI_le h1)
  | false =>
    have h2 : ¬ (0 ≤ k) := fun q => by rw [leI_iff.mpr q] at h1; cases h1
    have h3 : k * x ≤ k * lo := Int.mul_le_mul_of_nonpos_left (by omega) h.1
    exact h3
theorem ubT_ok {ρ : Nat → Int} {tab : Tb} (h : tOk ρ tab) {l : List (Nat × Int)} {acc b : Int} (hb : ubT tab l acc = some b) : acc + evT ρ l ≤ b := by
  induction l generalizing acc with
  | nil =>
    cases hb
    show b + 0 ≤ b
    omega
  | cons q r ih =>
    obtain ⟨s, k⟩ := q
    rw [ubT_def] at hb
    try dsimp only at hb
    cases h1 : tbLk s tab with
    | none => rw [h1] at hb; cases hb
    | some c =>
      obtain ⟨lo, hi⟩ := c
      rw [h1] at hb
      have h2 := ih hb
      have h3 : k * ρ s ≤ k * (bif leI 0 k then hi else lo) := mul_le_hi (tbLk_ok h h1)
      show acc + (k * ρ s + evT ρ r) ≤ b
      simp only [Int.add_def, Int.mul_def] at h2
      omega
theorem ub_ok {ρ : Nat → Int} {tab : Tb} (h : tOk ρ tab) {e : Ln} {b : Int} (hb : ub tab e = some b) : ev ρ e ≤ b := ubT_ok h hb
noncomputable def lb (tab : Tb) (e : Ln) : Option Int :=
  (Option.rec (motive := fun _ => Option Int) none (fun b_128 => (some (iNegQ b_128))) (ub tab (sclL (.negSucc (nat_lit 0)) e)))
theorem lb_def (tab : Tb) (e : Ln) : lb tab e = (match ub tab (sclL (.negSucc 0) e) with
  | some b => some (Int.neg b)
  | none => none) := by
  show (Option.rec (motive := fun _ => Option Int) none (fun b_127 => (some (iNegQ b_127))) (ub tab (sclL (.negSucc (nat_lit 0)) e))) = _
  try simp only [iAddQ_eq, iMulQ_eq, iNegQ_eq, lenQ_eq, nthQ_eq, setQ_eq, appQ_eq, mapQ_eq, allQ_eq, anyQ_eq, dropQ_eq, takeQ_eq, revQ_eq, getDQ_eq, optLQ_eq, brecC]
  all_goals
    cases hq_1 : (ub tab ((sclL ((.negSucc 0)) e))) with
    | none =>
      try dsimp only [cond_false, cond_true]
      all_goals rfl
    | some y_129 =>
      try dsimp only [cond_false, cond_true]
      all_goals rfl
theorem lb_ok {ρ : Nat → Int} {tab : Tb} (h : tOk ρ tab) {e : Ln} {b : Int} (hb : lb tab e = some b) : b ≤ ev ρ e := by
  rw [lb_def] at hb
  cases h1 : ub tab (sclL (.negSucc 0) e) with
  | none => rw [h1] at hb; cases hb
  | some c =>
    rw [h1] at hb
    cases hb
    have h2 := ub_ok h h1
    rw [ev_scl] at h2
    have h3 : (Int.negSucc 0) * ev ρ e = - ev ρ e := by show (-1) * ev ρ e = _; omega
    show - c ≤ ev ρ e
    omega
noncomputable def ub0 (tab : Tb) (e : Ln) : Bool :=
  (Option.rec (motive := fun _ => Bool) false (fun b_131 => (leI b_131 (.ofNat (nat_lit 0)))) (ub tab e))
theorem ub0_def (tab : Tb) (e : Ln) : ub0 tab e = (match ub tab e with
  | some b => leI b 0
  | none => false) := by
  show (Option.rec (motive := fun _ => Bool) false (fun b_130 => (leI b_130 (.ofNat (nat_lit 0)))) (ub tab e)) = _
  all_goals
    cases hq_1 : (ub tab e) with
    | none =>
      try dsimp only [cond_false, cond_true]
      all_goals rfl
    | some y_132 =>
      try dsimp only [cond_false, cond_true]
      all_goals rfl
theorem ub0_ok {ρ : Nat → Int} {tab : Tb} (h : tOk ρ tab) {e : Ln} (hb : ub0 tab e = true) : ev ρ e ≤ 0 := by
  rw [ub0_def] at hb
  cases h1 : ub tab e with
  | none => rw [h1] at hb; cases hb
  | some c =>
    rw [h1] at hb
    exact Int.le_trans (ub_ok h h1) (leI_le hb)
noncomputable def memT_a0 :=
  fun (ih : Bool) (s : Nat) (t_133 : Nat) => ((Bool.rec (motive := fun _ => Bool) (ih) true (Nat.beq s t_133)) : Bool)
noncomputable def memT (s : Nat) : List (Nat × Int) → Bool :=
  fun e_0 => List.rec (motive := fun _ => Bool) false (fun h_0 t_0 ih => (Prod.rec (motive := fun _ => Bool) (fun t_133 x_134 => (memT_a0 ih s t_133)) h_0)) e_0 
theorem memT_def (s : Nat) (e_0 : List (Nat × Int)) : memT s e_0 = (match e_0 with
  | [] => false
  | (t, _) :: r => bif Nat.beq s t then true else memT s r) := by
  cases e_0 with
  | nil =>
    show false = _
    try simp only [iAddQ_eq, iMulQ_eq, iNegQ_eq, lenQ_eq, nthQ_eq, setQ_eq, appQ_eq, mapQ_eq, allQ_eq, anyQ_eq, dropQ_eq, takeQ_eq, revQ_eq, getDQ_eq, optLQ_eq, brecC]
    all_goals rfl
  | cons h_0 t_0 =>
    show (Prod.rec (motive := fun _ => Bool) (fun t_135 x_136 => (Bool.rec (motive := fun _ => Bool) (memT s t_0) true (Nat.beq s t_135))) h_0) = _
    try simp only [iAddQ_eq, iMulQ_eq, iNegQ_eq, lenQ_eq, nthQ_eq, setQ_eq, appQ_eq, mapQ_eq, allQ_eq, anyQ_eq, dropQ_eq, takeQ_eq, revQ_eq, getDQ_eq, optLQ_eq, brecC]
    all_goals
      cases h_0 with
      | mk y_137 y_138 =>
        try dsimp only [cond_false, cond_true]
        all_goals
          cases hq_2 : (Nat.beq s y_137) with
          | false =>
            try dsimp only [cond_false, cond_true]
            all_goals rfl
          | true =>
            try dsimp only [cond_false, cond_true]
            all_goals rfl
/-- a symbol in common: other facts don't help -/
noncomputable def shT_a0 :=
  fun (ih : Bool) (t_139 : Nat) (a : List (Nat × Int)) => ((Bool.rec (motive := fun _ => Bool) (ih) true (memT t_139 a)) : Bool)
noncomputable def shT (a : List (Nat × Int)) : List (Nat × Int) → Bool :=
  fun e_0 => List.rec (motive := fun _ => Bool) false (fun h_0 t_0 ih => (Prod.rec (motive := fun _ => Bool) (fun t_139 x_140 => (shT_a0 ih t_139 a)) h_0)) e_0 
theorem shT_def (a : List (Nat × Int)) (e_0 : List (Nat × Int)) : shT a e_0 = (match e_0 with
  | [] => false
  | (t, _) :: r => bif memT t a then true else shT a r) := by
  cases e_0 with
  | nil =>
    show false = _
    try simp only [iAddQ_eq, iMulQ_eq, iNegQ_eq, lenQ_eq, nthQ_eq, setQ_eq, appQ_eq, mapQ_eq, allQ_eq, anyQ_eq, dropQ_eq, takeQ_eq, revQ_eq, getDQ_eq, optLQ_eq, brecC]
    all_goals rfl
  | cons h_0 t_0 =>
    show (Prod.rec (motive := fun _ => Bool) (fun t_141 x_142 => (Bool.rec (motive := fun _ => Bool) (shT a t_0) true (memT t_141 a))) h_0) = _
    try simp only [iAddQ_eq, iMulQ_eq, iNegQ_eq, lenQ_eq, nthQ_eq, setQ_eq, appQ_eq, mapQ_eq, allQ_eq, anyQ_eq, dropQ_eq, takeQ_eq, revQ_eq, getDQ_eq, optLQ_eq, brecC]
    all_goals
      cases h_0 with
      | mk y_143 y_144 =>
        try dsimp only [cond_false, cond_true]
        all_goals
          cases hq_2 : (memT y_143 a) with
          | false =>
            try dsimp only [cond_false, cond_true]
            all_goals rfl
          | true =>
            try dsimp only [cond_false, cond_true]
            all_goals rfl
noncomputable def anyF_a0 :=
  fun (ih : Bool) (tab : Tb) (e : Ln) (h_0 : Ln) => ((Bool.rec (motive := fun _ => Bool) (ih) true (Bool.rec (motive := fun _ => Bool) false (ub0 tab (subL e h_0)) (shT e.2 h_0.2))) : Bool)
noncomputable def anyF (tab : Tb) (e : Ln) : List Ln → Bool :=
  fun e_0 => List.rec (motive := fun _ => Bool) false (fun h_0 t_0 ih => (anyF_a0 ih tab e h_0)) e_0 
theorem anyF_def (tab : Tb) (e : Ln) (e_0 : List Ln) : anyF tab e e_0 = (match e_0 with
  | [] => false
  | f :: r => bif (bif shT e.2 f.2 then ub0 tab (subL e f) else false) then true else anyF tab e r) := by
  cases e_0 with
  | nil =>
    show false = _
    try simp only [iAddQ_eq, iMulQ_eq, iNegQ_eq, lenQ_eq, nthQ_eq, setQ_eq, appQ_eq, mapQ_eq, allQ_eq, anyQ_eq, dropQ_eq, takeQ_eq, revQ_eq, getDQ_eq, optLQ_eq, brecC]
    all_goals rfl
  | cons h_0 t_0 =>
    show (Bool.rec (motive := fun _ => Bool) (anyF tab e t_0) true (Bool.rec (motive := fun _ => Bool) false (ub0 tab (subL e h_0)) (shT e.2 h_0.2))) = _
    try simp only [iAddQ_eq, iMulQ_eq, iNegQ_eq, lenQ_eq, nthQ_eq, setQ_eq, appQ_eq, mapQ_eq, allQ_eq, anyQ_eq, dropQ_eq, takeQ_eq, revQ_eq, getDQ_eq, optLQ_eq, brecC]
    all_goals
      cases hq_1 : ((bif (shT e.2 h_0.2) then (ub0 tab ((subL e h_0))) else false)) with
      | false =>
        try dsimp only [cond_false, cond_true]
        all_goals rfl
      | true =>
        try dsimp only [cond_false, cond_true]
        all_goals rfl
/-- 'e ≤ 0', by the bounds, or by them and one of the facts -/
noncomputable def le0 (tab : Tb) (fs : List Ln) (e : Ln) : Bool :=
  (Bool.rec (motive := fun _ => Bool) (anyF tab e fs) true (ub0 tab e))
theorem le0_def (tab : Tb) (fs : List Ln) (e : Ln) : le0 tab fs e = bif ub0 tab e then true else anyF tab e fs := by
  show (Bool.rec (motive := fun _ => Bool) (anyF tab e fs) true (ub0 tab e)) = _
  try simp only [iAddQ_eq, iMulQ_eq, iNegQ_eq, lenQ_eq, nthQ_eq, setQ_eq, appQ_eq, mapQ_eq, allQ_eq, anyQ_eq, dropQ_eq, takeQ_eq, revQ_eq, getDQ_eq, optLQ_eq, brecC]
  all_goals
    cases hq_1 : (ub0 tab e) with
    | false =>
      try dsimp only [cond_false, cond_true]
      all_goals rfl
    | true =>
      try dsimp only [cond_false, cond_true]
      all_goals rfl
theorem anyF_ok {ρ : Nat → Int} {tab : Tb} (h : tOk ρ tab) {e : Ln} {fs : List Ln} (hf : fOk ρ fs) (hb : anyF tab e fs = true) : ev ρ e ≤ 0 := by
  induction fs with
  | nil => cases hb
  | cons f r ih =>
    rw [anyF_def] at hb
    try dsimp only at hb
    cases h1 : (bif shT e.2 f.2 then ub0 tab (subL e f) else false) with
    | true =>
      have h1' : ub0 tab (subL e f) = true := by
        cases hs : shT e.2 f.2 with
        | true => rw [hs] at h1; exact h1
        | false => rw [hs] at h1; cases h1
      have h2 := ub0_ok h h1'
      rw [ev_sub] at h2
      have h3 := hf f List.mem_cons_self
      omega
    | false =>
      rw [h1] at hb
      exact ih (fun q hq => hf q (List.mem_cons_of_mem _ hq)) hb
theorem le0_ok {ρ : Nat → Int} {tab : Tb} (h : tOk ρ tab) {e : Ln} {fs : List Ln} (hf : fOk ρ fs) (hb : le0 tab fs e = true) : ev ρ e ≤ 0 := by
  rw [le0_def] at hb
  cases h1 : ub0 tab e with
  | true => exact ub0_ok h h1
  | false => rw [h1] at hb; exact anyF_ok h hf hb
theorem tOk_cons {ρ : Nat → Int} {tab : Tb} (h : tOk ρ tab) {s : Nat} {lo hi : Int} (h1 : lo ≤ ρ s) (h2 : ρ s ≤ hi) : tOk ρ (tbIns s lo hi tab) := by
  refine ⟨fun q hq => ?_, h.2⟩
  rcases List.mem_cons.mp hq with rfl | hq
  · exact ⟨h1, h2⟩
  · exact h.1 q hq
/-- bounds of the symbols of e, out of 'e ≤ 0' -/
noncomputable def propT_a0 :=
  fun (ih : Tb → Tb) (s_145 : Nat) (m_150 : Int) (hi_149 : Int) (e_1 : Tb) (lo_148 : Int) => ((Bool.rec (motive := fun _ => Tb) (ih (tbIns s_145 m_150 hi_149 e_1)) (ih e_1) (leI m_150 lo_148)) : Tb)
noncomputable def propT_a1 :=
  fun (ih : Tb → Tb) (s_145 : Nat) (lo_148 : Int) (m_151 : Int) (e_1 : Tb) => ((ih (tbIns s_145 lo_148 (iNegQ m_151) e_1)) : Tb)
noncomputable def propT_a2 :=
  fun (ih : Tb → Tb) (s_145 : Nat) (lo_148 : Int) (m_151 : Int) (e_1 : Tb) (hi_149 : Int) => ((Bool.rec (motive := fun _ => Tb) (propT_a1 ih s_145 lo_148 m_151 e_1) (ih e_1) (leI hi_149 (iNegQ m_151))) : Tb)
noncomputable def propT (e : Ln) : List (Nat × Int) → Tb → Tb :=
  fun e_0 e_1 => List.rec (motive := fun _ => Tb → Tb) (fun e_1 => e_1) (fun h_0 t_0 ih e_1 => (Prod.rec (motive := fun _ => Tb) (fun s_145 k_146 => (Option.rec (motive := fun _ => Tb) (ih e_1) (fun x_147 => (Prod.rec (motive := fun _ => Tb) (fun lo_148 hi_149 => (Bool.rec (motive := fun _ => Tb) (Bool.rec (motive := fun _ => Tb) (ih e_1) (Option.rec (motive := fun _ => Tb) (ih e_1) (fun m_150 => (propT_a0 ih s_145 m_150 hi_149 e_1 lo_148)) (lb e_1 (addL e (sL s_145)))) (eqI k_146 (.negSucc (nat_lit 0)))) (Option.rec (motive := fun _ => Tb) (ih e_1) (fun m_151 => (propT_a2 ih s_145 lo_148 m_151 e_1 hi_149)) (lb e_1 (subL e (sL s_145)))) (eqI k_146 (.ofNat (nat_lit 1))))) x_147)) (tbLk s_145 e_1))) h_0)) e_0 e_1
theorem propT_def (e : Ln) (e_0 : List (Nat × Int)) (e_1 : Tb) : propT e e_0 e_1 = (match e_0, e_1 with
  | [], tab => tab
  | (s, k) :: r, tab => match tbLk s tab with
    | some (lo, hi) => bif eqI k 1 then (match lb tab (subL e (sL s)) with
      | some m => bif leI hi (Int.neg m) then propT e r tab else propT e r (tbIns s lo (Int.neg m) tab)
      | none => propT e r tab) else bif eqI k (.negSucc 0) then (match lb tab (addL e (sL s)) with
      | some m => bif leI m lo then propT e r tab else propT e r (tbIns s m hi tab)
      | none => propT e r tab) else propT e r tab
    | none => propT e r tab) := by
  cases e_0 with
  | nil =>
    show e_1 = _
    try simp only [iAddQ_eq, iMulQ_eq, iNegQ_eq, lenQ_eq, nthQ_eq, setQ_eq, appQ_eq, mapQ_eq, allQ_eq, anyQ_eq, dropQ_eq, takeQ_eq, revQ_eq, getDQ_eq, optLQ_eq, brecC]
    all_goals rfl
  | cons h_0 t_0 =>
    show (Prod.rec (motive := fun _ => Tb) (fun s_152 k_153 => (Option.rec (motive := fun _ => Tb) (propT e t_0 e_1) (fun x_154 => (Prod.rec (motive := fun _ => Tb) (fun lo_155 hi_156 => (Bool.rec (motive := fun _ => Tb) (Bool.rec (motive := fun _ => Tb) (propT e t_0 e_1) (Option.rec (motive := fun _ => Tb) (propT e t_0 e_1) (fun m_157 => (Bool.rec (motive := fun _ => Tb) (propT e t_0 (tbIns s_152 m_157 hi_156 e_1)) (propT e t_0 e_1) (leI m_157 lo_155))) (lb e_1 (addL e (sL s_152)))) (eqI k_153 (.negSucc (nat_lit 0)))) (Option.rec (motive := fun _ => Tb) (propT e t_0 e_1) (fun m_158 => (Bool.rec (motive := fun _ => Tb) (propT e t_0 (tbIns s_152 lo_155 (iNegQ m_158) e_1)) (propT e t_0 e_1) (leI hi_156 (iNegQ m_158)))) (lb e_1 (subL e (sL s_152)))) (eqI k_153 (.ofNat (nat_lit 1))))) x_154)) (tbLk s_152 e_1))) h_0) = _
    try simp only [iAddQ_eq, iMulQ_eq, iNegQ_eq, lenQ_eq, nthQ_eq, setQ_eq, appQ_eq, mapQ_eq, allQ_eq, anyQ_eq, dropQ_eq, takeQ_eq, revQ_eq, getDQ_eq, optLQ_eq, brecC]
    all_goals
      cases h_0 with
      | mk y_159 y_160 =>
        try dsimp only [cond_false, cond_true]
        all_goals
          cases hq_2 : (tbLk y_159 e_1) with
          | none =>
            try dsimp only [cond_false, cond_true]
            all_goals rfl
          | some y_161 =>
            try dsimp only [cond_false, cond_true]
            all_goals
              cases y_161 with
              | mk y_162 y_163 =>
                try dsimp only [cond_false, cond_true]
                all_goals
                  cases hq_4 : (eqI y_160 1) with
                  | false =>
                    try dsimp only [cond_false, cond_true]
                    all_goals
                      cases hq_5 : (eqI y_160 ((.negSucc 0))) with
                      | false =>
                        try dsimp only [cond_false, cond_true]
                        all_goals rfl
                      | true =>
                        try dsimp only [cond_false, cond_true]
                        all_goals
                          cases hq_6 : (lb e_1 ((addL e ((sL y_159))))) with
                          | none =>
                            try dsimp only [cond_false, cond_true]
                            all_goals rfl
                          | some y_164 =>
                            try dsimp only [cond_false, cond_true]
                            all_goals
                              cases hq_7 : (leI y_164 y_162) with
                              | false =>
                                try dsimp only [cond_false, cond_true]
                                all_goals rfl
                              | true =>
                                try dsimp only [cond_false, cond_true]
                                all_goals rfl
                  | true =>
                    try dsimp only [cond_false, cond_true]
                    all_goals
                      cases hq_8 : (lb e_1 ((subL e ((sL y_159))))) with
                      | none =>
                        try dsimp only [cond_false, cond_true]
                        all_goals rfl
                      | some y_165 =>
                        try dsimp only [cond_false, cond_true]
                        all_goals
                          cases hq_9 : (leI y_163 ((Int.neg y_165))) with
                          | false =>
                            try dsimp only [cond_false, cond_true]
                            all_goals rfl
                          | true =>
                            try dsimp only [cond_false, cond_true]
                            all_goals rfl
theorem propT_ok {ρ : Nat → Int} {e : Ln} (he : ev ρ e ≤ 0) : ∀ (l : List (Nat × Int)) (tab : Tb), tOk ρ tab → tOk ρ (propT e l tab) := by
  intro l
  induction l with
  | nil => intro tab h; exact h
  | cons q r ih =>
    obtain ⟨s, k⟩ := q
    intro tab h
    rw [propT_def]
    try dsimp only
    split
    · rename_i lo hi hs
      have h3 := tbLk_ok h hs
      try dsimp only at h3
      cases h5 : eqI k 1 with
      | true =>
        rw [cond_true]
        split
        · rename_i m hm
          have h6 := lb_ok h hm
          rw [ev_sub, ev_s] at h6
          cases h7 : leI hi (Int.neg m) with
          | true => exact ih tab h
          | false => exact ih _ (tOk_cons h h3.1 (by show ρ s ≤ -m; omega))
        · exact ih tab h
      | false =>
        rw [cond_false]
        cases h6 : eqI k (.negSucc 0) with
        | true =>
          rw [cond_true]
          split
          · rename_i m hm
            have h6 := lb_ok h hm
            rw [ev_add, ev_s] at h6
            cases h7 : leI m lo with
            | true => exact ih tab h
            | false => exact ih _ (tOk_cons h (by omega) h3.2)
          · exact ih tab h
        | false => exact ih tab h
    · exact ih tab h
/-- one fact more; none: it can't hold -/
noncomputable def addLe_a0 :=
  fun (s_177 : Nat) (e : Ln) (hi_183 : Int) (tab : Tb) (lo_182 : Int) (fs : List Ln) => ((some ((Bool.rec (motive := fun _ => _) (tbIns s_177 e.1 hi_183 tab) tab (leI e.1 lo_182)), fs)) : Option (Tb × List Ln))
noncomputable def addLe_a1 :=
  fun (tab : Tb) (e : Ln) (fs : List Ln) (s_177 : Nat) (hi_183 : Int) (lo_182 : Int) (k_178 : Int) => ((Bool.rec (motive := fun _ => Option (Tb × List Ln)) (some (tab, (e :: fs))) (addLe_a0 s_177 e hi_183 tab lo_182 fs) (eqI k_178 (.negSucc (nat_lit 0)))) : Option (Tb × List Ln))
noncomputable def addLe_a2 :=
  fun (s_177 : Nat) (lo_182 : Int) (e : Ln) (tab : Tb) => (tbIns s_177 lo_182 (iNegQ e.1) tab)
noncomputable def addLe_a3 :=
  fun (s_177 : Nat) (lo_182 : Int) (e : Ln) (tab : Tb) (hi_183 : Int) (fs : List Ln) => ((some ((Bool.rec (motive := fun _ => _) (addLe_a2 s_177 lo_182 e tab) tab (leI hi_183 (iNegQ e.1))), fs)) : Option (Tb × List Ln))
noncomputable def addLe_a4 :=
  fun (tab : Tb) (e : Ln) (fs : List Ln) (s_177 : Nat) (hi_183 : Int) (lo_182 : Int) (k_178 : Int) => ((Bool.rec (motive := fun _ => Option (Tb × List Ln)) (addLe_a1 tab e fs s_177 hi_183 lo_182 k_178) (addLe_a3 s_177 lo_182 e tab hi_183 fs) (eqI k_178 (.ofNat (nat_lit 1)))) : Option (Tb × List Ln))
noncomputable def addLe_a5 :=
  fun (e : Ln) (tab : Tb) (fs : List Ln) => ((some ((propT e e.2 tab), (e :: fs))) : Option (Tb × List Ln))
noncomputable def addLe_a6 :=
  fun (e : Ln) (tab : Tb) (fs : List Ln) => ((Bool.rec (motive := fun _ => Option (Tb × List Ln)) (addLe_a5 e tab fs) (some (tab, fs)) (ub0 tab e)) : Option (Tb × List Ln))
noncomputable def addLe (tab : Tb) (fs : List Ln) (e : Ln) : Option (Tb × List Ln) :=
  (Bool.rec (motive := fun _ => Option (Tb × List Ln)) (List.rec (motive := fun _ => Option (Tb × List Ln)) (some (tab, fs)) (fun x_175 x_176 _ => (Prod.rec (motive := fun _ => Option (Tb × List Ln)) (fun s_177 k_178 => (List.rec (motive := fun _ => Option (Tb × List Ln)) (Option.rec (motive := fun _ => Option (Tb × List Ln)) (some (tab, (e :: fs))) (fun x_181 => (Prod.rec (motive := fun _ => Option (Tb × List Ln)) (fun lo_182 hi_183 => (addLe_a4 tab e fs s_177 hi_183 lo_182 k_178)) x_181)) (tbLk s_177 tab)) (fun x_179 x_180 _ => (addLe_a6 e tab fs)) x_176)) x_175)) e.2) none (le0 tab fs (pluL (sclL (.negSucc (nat_lit 0)) e) (.ofNat (nat_lit 1)))))
theorem addLe_def (tab : Tb) (fs : List Ln) (e : Ln) : addLe tab fs e = (bif le0 tab fs (pluL (sclL (.negSucc 0) e) 1) then none else match e.2 with
  | [] => some (tab, fs)
  | [(s, k)] => (match tbLk s tab with
    | some (lo, hi) => bif eqI k 1 then some (bif leI hi (Int.neg e.1) then tab else tbIns s lo (Int.neg e.1) tab, fs) else bif eqI k (.negSucc 0) then some (bif leI e.1 lo then tab else tbIns s e.1 hi tab, fs) else some (tab, e :: fs)
    | none => some (tab, e :: fs))
  | _ => bif ub0 tab e then some (tab, fs) else some (propT e e.2 tab, e :: fs)) := by
  show (Bool.rec (motive := fun _ => Option (Tb × List Ln)) (List.rec (motive := fun _ => Option (Tb × List Ln)) (some (tab, fs)) (fun x_166 x_167 _ => (Prod.rec (motive := fun _ => Option (Tb × List Ln)) (fun s_168 k_169 => (List.rec (motive := fun _ => Option (Tb × List Ln)) (Option.rec (motive := fun _ => Option (Tb × List Ln)) (some (tab, (e :: fs))) (fun x_172 => (Prod.rec (motive := fun _ => Option (Tb × List Ln)) (fun lo_173 hi_174 => (Bool.rec (motive := fun _ => Option (Tb × List Ln)) (Bool.rec (motive := fun _ => Option (Tb × List Ln)) (some (tab, (e :: fs))) (some ((Bool.rec (motive := fun _ => _) (tbIns s_168 e.1 hi_174 tab) tab (leI e.1 lo_173)), fs)) (eqI k_169 (.negSucc (nat_lit 0)))) (some ((Bool.rec (motive := fun _ => _) (tbIns s_168 lo_173 (iNegQ e.1) tab) tab (leI hi_174 (iNegQ e.1))), fs)) (eqI k_169 (.ofNat (nat_lit 1))))) x_172)) (tbLk s_168 tab)) (fun x_170 x_171 _ => (Bool.rec (motive := fun _ => Option (Tb × List Ln)) (some ((propT e e.2 tab), (e :: fs))) (some (tab, fs)) (ub0 tab e))) x_167)) x_166)) e.2) none (le0 tab fs (pluL (sclL (.negSucc (nat_lit 0)) e) (.ofNat (nat_lit 1))))) = _
  try simp only [iAddQ_eq, iMulQ_eq, iNegQ_eq, lenQ_eq, nthQ_eq, setQ_eq, appQ_eq, mapQ_eq, allQ_eq, anyQ_eq, dropQ_eq, takeQ_eq, revQ_eq, getDQ_eq, optLQ_eq, brecC]
  all_goals
    cases hq_1 : (le0 tab fs ((pluL ((sclL ((.negSucc 0)) e)) 1))) with
    | false =>
      try dsimp only [cond_false, cond_true]
      all_goals
        cases hq_2 : e.2 with
        | nil =>
          try dsimp only [cond_false, cond_true]
          all_goals rfl
        | cons y_184 y_185 =>
          try dsimp only [cond_false, cond_true]
          all_goals
            cases y_184 with
            | mk y_186 y_187 =>
              try dsimp only [cond_false, cond_true]
              all_goals
                cases y_185 with
                | nil =>
                  try dsimp only [cond_false, cond_true]
                  all_goals
                    cases hq_5 : (tbLk y_186 tab) with
                    | none =>
                      try dsimp only [cond_false, cond_true]
                      all_goals rfl
                    | some y_188 =>
                      try dsimp only [cond_false, cond_true]
                      all_goals
                        cases y_188 with
                        | mk y_189 y_190 =>
                          try dsimp only [cond_false, cond_true]
                          all_goals
                            cases hq_7 : (eqI y_187 1) with
                            | false =>
                              try dsimp only [cond_false, cond_true]
                              all_goals
                                cases hq_8 : (eqI y_187 ((.negSucc 0))) with
                                | false =>
                                  try dsimp only [cond_false, cond_true]
                                  all_goals rfl
                                | true =>
                                  try dsimp only [cond_false, cond_true]
                                  all_goals rfl
                            | true =>
                              try dsimp only [cond_false, cond_true]
                              all_goals rfl
                | cons y_191 y_192 =>
                  try dsimp only [cond_false, cond_true]
                  all_goals
                    cases hq_9 : (ub0 tab e) with
                    | false =>
                      try dsimp only [cond_false, cond_true]
                      all_goals rfl
                    | true =>
                      try dsimp only [cond_false, cond_true]
                      all_goals rfl
    | true =>
      try dsimp only [cond_false, cond_true]
      all_goals rfl
theorem fOk_cons {ρ : Nat → Int} {fs : List Ln} (h : fOk ρ fs) {e : Ln} (h1 : ev ρ e ≤ 0) : fOk ρ (e :: fs) := fun q hq => by
  rcases List.mem_cons.mp hq with rfl | hq
  · exact h1
  · exact h q hq
theorem addLe_ok {ρ : Nat → Int} {tab : Tb} {fs : List Ln} (h : tOk ρ tab) (hf : fOk ρ fs) {e : Ln} (he : ev ρ e ≤ 0) : ∃ tab' fs', addLe tab fs e = some (tab', fs') ∧ tOk ρ tab' ∧ fOk ρ fs' := by
  rw [addLe_def]
  cases h1 : le0 tab fs (pluL (sclL (.negSucc 0) e) 1) with
  | true =>
    have h2 := le0_ok h hf h1
    rw [ev_plu, ev_scl] at h2
    have h3 : (Int.negSucc 0) * ev ρ e = - ev ρ e := by show (-1) * ev ρ e = _; omega
    omega
  | false =>
    obtain ⟨c, ts⟩ := e
    show ∃ tab' fs', (match ts with
      | [] => some (tab, fs)
      | [(s, k)] => (match tbLk s tab with
        | some (lo, hi) => bif eqI k 1 then some (bif leI hi (Int.neg c) then tab else tbIns s lo (Int.neg c) tab, fs) else bif eqI k (.negSucc 0) then some (bif leI c lo then tab else tbIns s c hi tab, fs) else some (tab, (c, ts) :: fs)
        | none => some (tab, (c, ts) :: fs))
      | _ => bif ub0 tab (c, ts) then some (tab, fs) else some (propT (c, ts) ts tab, (c, ts) :: fs)) = some (tab', fs') ∧ tOk ρ tab' ∧ fOk ρ fs'
    have hall : tOk ρ tab ∧ fOk ρ ((c, ts) :: fs) := ⟨h, fOk_cons hf he⟩
    split
    · exact ⟨_, _, rfl, h, hf⟩
    · rename_i s k
      cases h2 : tbLk s tab with
      | none => exact ⟨_, _, rfl, hall⟩
      | some b =>
        obtain ⟨lo, hi⟩ := b
        have h3 := tbLk_ok h h2
        have h4 : c + (k * ρ s + 0) ≤ 0 := he
        try dsimp only at h3 ⊢
        cases h5 : eqI k 1 with
        | true =>
          have := eqI_eq h5
          subst this
          refine ⟨_, _, rfl, ?_, hf⟩
          cases h6 : leI hi (Int.neg c) with
          | true => exact h
          | false => exact tOk_cons h h3.1 (by show ρ s ≤ -c; omega)
        | false =>
          cases h5' : eqI k (.negSucc 0) with
          | true =>
            have := eqI_eq h5'
            subst this
            have h7 : (Int.negSucc 0) * ρ s = - ρ s := by show (-1) * ρ s = _; omega
            refine ⟨_, _, rfl, ?_, hf⟩
            cases h6 : leI c lo with
            | true => exact h
            | false => exact tOk_cons h (by omega) h3.2
          | false => exact ⟨_, _, rfl, hall⟩
    · cases h2 : ub0 tab (c, ts) with
      | true => exact ⟨_, _, rfl, h, hf⟩
      | false => exact ⟨_, _, rfl, propT_ok he _ _ h, hall.2⟩
/-- equal for sure -/
noncomputable def eqT_a0 :=
  fun (ih : List (Nat × Int) → Bool) (q_198 : List (Nat × Int)) (k_196 : Int) (m_200 : Int) => ((Bool.rec (motive := fun _ => Bool) false (ih q_198) (eqI k_196 m_200)) : Bool)
noncomputable def eqT_a1 :=
  fun (ih : List (Nat × Int) → Bool) (q_198 : List (Nat × Int)) (k_196 : Int) (m_200 : Int) (s_195 : Nat) (t_199 : Nat) => ((Bool.rec (motive := fun _ => Bool) false (eqT_a0 ih q_198 k_196 m_200) (Nat.beq s_195 t_199)) : Bool)
noncomputable def eqT  : List (Nat × Int) → List (Nat × Int) → Bool :=
  fun e_0 e_1 => List.rec (motive := fun _ => List (Nat × Int) → Bool) (fun e_1 => (List.rec (motive := fun _ => Bool) true (fun x_193 x_194 _ => false) e_1)) (fun h_0 t_0 ih e_1 => (Prod.rec (motive := fun _ => Bool) (fun s_195 k_196 => (List.rec (motive := fun _ => Bool) false (fun x_197 q_198 _ => (Prod.rec (motive := fun _ => Bool) (fun t_199 m_200 => (eqT_a1 ih q_198 k_196 m_200 s_195 t_199)) x_197)) e_1)) h_0)) e_0 e_1
theorem eqT_def  (e_0 : List (Nat × Int)) (e_1 : List (Nat × Int)) : eqT  e_0 e_1 = (match e_0, e_1 with
  | [], [] => true
  | (s, k) :: r, (t, m) :: q => bif Nat.beq s t then (bif eqI k m then eqT r q else false) else false
  | _, _ => false) := by
  cases e_0 with
  | nil =>
    show (List.rec (motive := fun _ => Bool) true (fun x_201 x_202 _ => false) e_1) = _
    try simp only [iAddQ_eq, iMulQ_eq, iNegQ_eq, lenQ_eq, nthQ_eq, setQ_eq, appQ_eq, mapQ_eq, allQ_eq, anyQ_eq, dropQ_eq, takeQ_eq, revQ_eq, getDQ_eq, optLQ_eq, brecC]
    all_goals
      cases e_1 with
      | nil =>
        try dsimp only [cond_false, cond_true]
        all_goals rfl
      | cons y_203 y_204 =>
        try dsimp only [cond_false, cond_true]
        all_goals rfl
  | cons h_0 t_0 =>
    show (Prod.rec (motive := fun _ => Bool) (fun s_205 k_206 => (List.rec (motive := fun _ => Bool) false (fun x_207 q_208 _ => (Prod.rec (motive := fun _ => Bool) (fun t_209 m_210 => (Bool.rec (motive := fun _ => Bool) false (Bool.rec (motive := fun _ => Bool) false (eqT t_0 q_208) (eqI k_206 m_210)) (Nat.beq s_205 t_209))) x_207)) e_1)) h_0) = _
    try simp only [iAddQ_eq, iMulQ_eq, iNegQ_eq, lenQ_eq, nthQ_eq, setQ_eq, appQ_eq, mapQ_eq, allQ_eq, anyQ_eq, dropQ_eq, takeQ_eq, revQ_eq, getDQ_eq, optLQ_eq, brecC]
    all_goals
      cases h_0 with
      | mk y_211 y_212 =>
        try dsimp only [cond_false, cond_true]
        all_goals
          cases e_1 with
          | nil =>
            try dsimp only [cond_false, cond_true]
            all_goals rfl
          | cons y_213 y_214 =>
            try dsimp only [cond_false, cond_true]
            all_goals
              cases y_213 with
              | mk y_215 y_216 =>
                try dsimp only [cond_false, cond_true]
                all_goals
                  cases hq_5 : (Nat.beq y_211 y_215) with
                  | false =>
                    try dsimp only [cond_false, cond_true]
                    all_goals rfl
                  | true =>
                    try dsimp only [cond_false, cond_true]
                    all_goals
                      cases hq_6 : (eqI y_212 y_216) with
                      | false =>
                        try dsimp only [cond_false, cond_true]
                        all_goals rfl
                      | true =>
                        try dsimp only [cond_false, cond_true]
                        all_goals rfl
theorem eqT_eq {a b : List (Nat × Int)} (h : eqT a b = true) : a = b := by
  induction a generalizing b with
  | nil => cases b with
    | nil => rfl
    | cons q r => cases h
  | cons p r ih => cases b with
    | nil => cases h
    | cons q r' =>
      obtain ⟨s, k⟩ := p
      obtain ⟨t, m⟩ := q
      rw [eqT_def] at h
      try dsimp only at h
      cases h1 : Nat.beq s t with
      | false => rw [h1] at h; cases h
      | true =>
        rw [h1] at h
        cases h2 : eqI k m with
        | false => rw [h2] at h; cases h
        | true =>
          rw [h2] at h
          rw [Nat.eq_of_beq_eq_true h1, eqI_eq h2, ih h]
noncomputable def eqL_a0 :=
  fun (tab : Tb) (fs : List Ln) (b : Ln) (a : Ln) => ((Bool.rec (motive := fun _ => Bool) false (le0 tab fs (subL b a)) (le0 tab fs (subL a b))) : Bool)
noncomputable def eqL (tab : Tb) (fs : List Ln) (a b : Ln) : Bool :=
  (Bool.rec (motive := fun _ => Bool) (eqL_a0 tab fs b a) true (Bool.rec (motive := fun _ => Bool) false (eqT a.2 b.2) (eqI a.1 b.1)))
theorem eqL_def (tab : Tb) (fs : List Ln) (a b : Ln) : eqL tab fs a b = bif (bif eqI a.1 b.1 then eqT a.2 b.2 else false) then true else bif le0 tab fs (subL a b) then le0 tab fs (subL b a) else false := by
  show (Bool.rec (motive := fun _ => Bool) (Bool.rec (motive := fun _ => Bool) false (le0 tab fs (subL b a)) (le0 tab fs (subL a b))) true (Bool.rec (motive := fun _ => Bool) false (eqT a.2 b.2) (eqI a.1 b.1))) = _
  try simp only [iAddQ_eq, iMulQ_eq, iNegQ_eq, lenQ_eq, nthQ_eq, setQ_eq, appQ_eq, mapQ_eq, allQ_eq, anyQ_eq, dropQ_eq, takeQ_eq, revQ_eq, getDQ_eq, optLQ_eq, brecC]
  all_goals
    cases hq_1 : ((bif (eqI a.1 b.1) then (eqT a.2 b.2) else false)) with
    | false =>
      try dsimp only [cond_false, cond_true]
      all_goals
        cases hq_2 : (le0 tab fs ((subL a b))) with
        | false =>
          try dsimp only [cond_false, cond_true]
          all_goals rfl
        | true =>
          try dsimp only [cond_false, cond_true]
          all_goals rfl
    | true =>
      try dsimp only [cond_false, cond_true]
      all_goals rfl
theorem eqL_ok {ρ : Nat → Int} {tab : Tb} {fs : List Ln} (h : tOk ρ tab) (hf : fOk ρ fs) {a b : Ln} (he : eqL tab fs a b = true) : ev ρ a = ev ρ b := by
  rw [eqL_def] at he
  cases h1 : (bif eqI a.1 b.1 then eqT a.2 b.2 else false) with
  | true =>
    cases h2 : eqI a.1 b.1 with
    | false => rw [h2] at h1; cases h1
    | true =>
      rw [h2] at h1
      obtain ⟨a1, a2⟩ := a
      obtain ⟨b1, b2⟩ := b
      have e1 : a1 = b1 := eqI_eq h2
      have e2 : a2 = b2 := eqT_eq h1
      rw [e1, e2]
  | false =>
    rw [h1] at he
    cases h2 : le0 tab fs (subL a b) with
    | false => rw [h2] at he; cases he
    | true =>
      rw [h2] at he
      have h3 := le0_ok h hf h2
      have h4 := le0_ok h hf he
      rw [ev_sub] at h3 h4
      omega
/-- the symbols replaced -/
abbrev Th : Type := Nat → Ln
noncomputable def subT_a0 :=
  fun (ih : Ln → Ln) (e_1 : Ln) (k_218 : Int) (θ : Th) (s_217 : Nat) => ((ih (addL e_1 (sclL k_218 (θ s_217)))) : Ln)
noncomputable def subT (θ : Th) : List (Nat × Int) → Ln → Ln :=
  fun e_0 e_1 => List.rec (motive := fun _ => Ln → Ln) (fun e_1 => e_1) (fun h_0 t_0 ih e_1 => (Prod.rec (motive := fun _ => Ln) (fun s_217 k_218 => (subT_a0 ih e_1 k_218 θ s_217)) h_0)) e_0 e_1
theorem subT_def (θ : Th) (e_0 : List (Nat × Int)) (e_1 : Ln) : subT θ e_0 e_1 = (match e_0, e_1 with
  | [], acc => acc
  | (s, k) :: r, acc => subT θ r (addL acc (sclL k (θ s)))) := by
  cases e_0 with
  | nil =>
    show e_1 = _
    try simp only [iAddQ_eq, iMulQ_eq, iNegQ_eq, lenQ_eq, nthQ_eq, setQ_eq, appQ_eq, mapQ_eq, allQ_eq, anyQ_eq, dropQ_eq, takeQ_eq, revQ_eq, getDQ_eq, optLQ_eq, brecC]
    all_goals rfl
  | cons h_0 t_0 =>
    show (Prod.rec (motive := fun _ => Ln) (fun s_219 k_220 => (subT θ t_0 (addL e_1 (sclL k_220 (θ s_219))))) h_0) = _
    try simp only [iAddQ_eq, iMulQ_eq, iNegQ_eq, lenQ_eq, nthQ_eq, setQ_eq, appQ_eq, mapQ_eq, allQ_eq, anyQ_eq, dropQ_eq, takeQ_eq, revQ_eq, getDQ_eq, optLQ_eq, brecC]
    all_goals
      cases h_0 with
      | mk y_221 y_222 =>
        try dsimp only [cond_false, cond_true]
        all_goals rfl
noncomputable def sbL_a0 :=
  fun (θ : Th) (e : Ln) (s_231 : Nat) (k_232 : Int) => ((Bool.rec (motive := fun _ => Ln) (subT θ e.2 (kL e.1)) (θ s_231) (Bool.rec (motive := fun _ => Bool) false (eqI k_232 (.ofNat (nat_lit 1))) (isZ e.1))) : Ln)
noncomputable def sbL (θ : Th) (e : Ln) : Ln :=
  (List.rec (motive := fun _ => Ln) (subT θ e.2 (kL e.1)) (fun x_229 x_230 _ => (Prod.rec (motive := fun _ => Ln) (fun s_231 k_232 => (List.rec (motive := fun _ => Ln) (sbL_a0 θ e s_231 k_232) (fun x_233 x_234 _ => (subT θ e.2 (kL e.1))) x_230)) x_229)) e.2)
theorem sbL_def (θ : Th) (e : Ln) : sbL θ e = (match e.2 with
  | [(s, k)] => bif (bif isZ e.1 then eqI k 1 else false) then θ s else subT θ e.2 (kL e.1)
  | _ => subT θ e.2 (kL e.1)) := by
  show (List.rec (motive := fun _ => Ln) (subT θ e.2 (kL e.1)) (fun x_223 x_224 _ => (Prod.rec (motive := fun _ => Ln) (fun s_225 k_226 => (List.rec (motive := fun _ => Ln) (Bool.rec (motive := fun _ => Ln) (subT θ e.2 (kL e.1)) (θ s_225) (Bool.rec (motive := fun _ => Bool) false (eqI k_226 (.ofNat (nat_lit 1))) (isZ e.1))) (fun x_227 x_228 _ => (subT θ e.2 (kL e.1))) x_224)) x_223)) e.2) = _
  try simp only [iAddQ_eq, iMulQ_eq, iNegQ_eq, lenQ_eq, nthQ_eq, setQ_eq, appQ_eq, mapQ_eq, allQ_eq, anyQ_eq, dropQ_eq, takeQ_eq, revQ_eq, getDQ_eq, optLQ_eq, brecC]
  all_goals
    cases hq_1 : e.2 with
    | nil =>
      try dsimp only [cond_false, cond_true]
      all_goals rfl
    | cons y_235 y_236 =>
      try dsimp only [cond_false, cond_true]
      all_goals
        cases y_235 with
        | mk y_237 y_238 =>
          try dsimp only [cond_false, cond_true]
          all_goals
            cases y_236 with
            | nil =>
              try dsimp only [cond_false, cond_true]
              all_goals
                cases hq_4 : ((bif (isZ e.1) then (eqI y_238 1) else false)) with
                | false =>
                  try dsimp only [cond_false, cond_true]
                  all_goals rfl
                | true =>
                  try dsimp only [cond_false, cond_true]
                  all_goals rfl
            | cons y_239 y_240 =>
              try dsimp only [cond_false, cond_true]
              all_goals rfl
theorem ev_subT (ρ : Nat → Int) (θ : Th) (l : List (Nat × Int)) (acc : Ln) : ev ρ (subT θ l acc) = ev ρ acc + evT (fun s => ev ρ (θ s)) l := by
  induction l generalizing acc with
  | nil => show ev ρ acc = ev ρ acc + 0; omega
  | cons q r ih =>
    obtain ⟨s, k⟩ := q
    show ev ρ (subT θ r (addL acc (sclL k (θ s)))) = ev ρ acc + (k * ev ρ (θ s) + evT _ r)
    rw [ih, ev_add, ev_scl]
    omega
theorem ev_sb (ρ : Nat → Int) (θ : Th) (e : Ln) : ev ρ (sbL θ e) = ev (fun s => ev ρ (θ s)) e := by
  have key : ev ρ (subT θ e.2 (kL e.1)) = ev (fun s => ev ρ (θ s)) e := by
    rw [ev_subT, ev_k]
    rfl
  obtain ⟨c, ts⟩ := e
  rw [sbL_def]
  split
  · rename_i s k hts
    try dsimp only at hts ⊢
    subst hts
    cases h1 : isZ c with
    | false => exact key
    | true =>
      cases h2 : eqI k 1 with
      | false => exact key
      | true =>
        have e1 := isZ_eq h1
        have e2 := eqI_eq h2
        subst e1
        subst e2
        show ev ρ (θ s) = 0 + (1 * ev ρ (θ s) + 0)
        omega
  · exact key
-- which symbols an expression speaks of
noncomputable def scT_a0 :=
  fun (ih : Bool) (s_241 : Nat) (n : Nat) => ((Bool.rec (motive := fun _ => Bool) false (ih) (Nat.blt s_241 n)) : Bool)
noncomputable def scT (n : Nat) : List (Nat × Int) → Bool :=
  fun e_0 => List.rec (motive := fun _ => Bool) true (fun h_0 t_0 ih => (Prod.rec (motive := fun _ => Bool) (fun s_241 x_242 => (scT_a0 ih s_241 n)) h_0)) e_0 
theorem scT_def (n : Nat) (e_0 : List (Nat × Int)) : scT n e_0 = (match e_0 with
  | [] => true
  | (s, _) :: r => bif Nat.blt s n then scT n r else false) := by
  cases e_0 with
  | nil =>
    show true = _
    try simp only [iAddQ_eq, iMulQ_eq, iNegQ_eq, lenQ_eq, nthQ_eq, setQ_eq, appQ_eq, mapQ_eq, allQ_eq, anyQ_eq, dropQ_eq, takeQ_eq, revQ_eq, getDQ_eq, optLQ_eq, brecC]
    all_goals rfl
  | cons h_0 t_0 =>
    show (Prod.rec (motive := fun _ => Bool) (fun s_243 x_244 => (Bool.rec (motive := fun _ => Bool) false (scT n t_0) (Nat.blt s_243 n))) h_0) = _
    try simp only [iAddQ_eq, iMulQ_eq, iNegQ_eq, lenQ_eq, nthQ_eq, setQ_eq, appQ_eq, mapQ_eq, allQ_eq, anyQ_eq, dropQ_eq, takeQ_eq, revQ_eq, getDQ_eq, optLQ_eq, brecC]
    all_goals
      cases h_0 with
      | mk y_245 y_246 =>
        try dsimp only [cond_false, cond_true]
        all_goals
          cases hq_2 : (Nat.blt y_245 n) with
          | false =>
            try dsimp only [cond_false, cond_true]
            all_goals rfl
          | true =>
            try dsimp only [cond_false, cond_true]
            all_goals rfl
noncomputable def agr2 (n : Nat) (ρ ρ' : Nat → Int) : Prop := ∀ i, i < n → ρ' i = ρ i
theorem scT_ev {n : Nat} {ρ ρ' : Nat → Int} (ha : agr2 n ρ ρ') {l : List (Nat × Int)} (h : scT n l = true) : evT ρ' l = evT ρ l := by
  induction l with
  | nil => rfl
  | cons q r ih =>
    obtain ⟨s, k⟩ := q
    rw [scT_def] at h
    try dsimp only at h
    cases h1 : Nat.blt s n with
    | false => rw [h1] at h; cases h
    | true =>
      rw [h1] at h
      have h2 : s < n := Nat.le_of_ble_eq_true h1
      show k * ρ' s + evT ρ' r = k * ρ s + evT ρ r
      rw [ha s h2, ih h]
noncomputable def scL (n : Nat) (e : Ln) : Bool :=
  (scT n e.2)
theorem scL_def (n : Nat) (e : Ln) : scL n e = scT n e.2 := by
  show (scT n e.2) = _
  all_goals rfl
theorem scL_ev {n : Nat} {ρ ρ' : Nat → Int} (ha : agr2 n ρ ρ') {e : Ln} (h : scL n e = true) : ev ρ' e = ev ρ e := by
  show e.1 + evT ρ' e.2 = e.1 + evT ρ e.2
  rw [scT_ev ha h]
