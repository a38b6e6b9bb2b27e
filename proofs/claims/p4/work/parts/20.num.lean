/-! ===== abstract numbers: a constant and multiples of symbols; what is known of the symbols ===== -/
-- lists by their recursor: cheap for the kernel
noncomputable def lenQ {α : Type} (l : List α) : Nat := List.rec (motive := fun _ => Nat) (nat_lit 0) (fun _ _ ih => Nat.succ ih) l
theorem lenQ_eq {α : Type} (l : List α) : lenQ l = l.length := by
  induction l with
  | nil => rfl
  | cons a r ih => show Nat.succ (lenQ r) = _; rw [ih]; rfl
noncomputable def nthQ {α : Type} (l : List α) : Nat → Option α := List.rec (motive := fun _ => Nat → Option α) (fun _ => none) (fun a _ ih i => Nat.rec (motive := fun _ => Option α) (some a) (fun j _ => ih j) i) l
theorem nthQ_eq {α : Type} (l : List α) (i : Nat) : nthQ l i = l[i]? := by
  induction l generalizing i with
  | nil => rfl
  | cons a r ih => cases i with
    | zero => rfl
    | succ j => show nthQ r j = _; rw [ih]; rfl
noncomputable def setQ {α : Type} (l : List α) (i : Nat) (x : α) : List α := List.rec (motive := fun _ => Nat → List α) (fun _ => []) (fun a r ih i => Nat.rec (motive := fun _ => List α) (x :: r) (fun j _ => a :: ih j) i) l i
theorem setQ_eq {α : Type} (l : List α) (i : Nat) (x : α) : setQ l i x = l.set i x := by
  induction l generalizing i with
  | nil => rfl
  | cons a r ih => cases i with
    | zero => rfl
    | succ j => show a :: setQ r j x = _; rw [ih]; rfl
noncomputable def appQ {α : Type} (l m : List α) : List α := List.rec (motive := fun _ => List α) m (fun a _ ih => a :: ih) l
theorem appQ_eq {α : Type} (l m : List α) : appQ l m = l ++ m := by
  induction l with
  | nil => rfl
  | cons a r ih => show a :: appQ r m = _; rw [ih]; rfl
noncomputable def mapQ {α β : Type} (f : α → β) (l : List α) : List β := List.rec (motive := fun _ => List β) [] (fun a _ ih => f a :: ih) l
theorem mapQ_eq {α β : Type} (f : α → β) (l : List α) : mapQ f l = l.map f := by
  induction l with
  | nil => rfl
  | cons a r ih => show f a :: mapQ f r = _; rw [ih]; rfl
noncomputable def allQ {α : Type} (f : α → Bool) (l : List α) : Bool := List.rec (motive := fun _ => Bool) true (fun a _ ih => Bool.rec (motive := fun _ => Bool) false ih (f a)) l
theorem allQ_eq {α : Type} (f : α → Bool) (l : List α) : allQ f l = l.all f := by
  induction l with
  | nil => rfl
  | cons a r ih =>
    show Bool.rec (motive := fun _ => Bool) false (allQ f r) (f a) = _
    rw [ih, List.all_cons]
    cases f a <;> rfl
noncomputable def anyQ {α : Type} (f : α → Bool) (l : List α) : Bool := List.rec (motive := fun _ => Bool) false (fun a _ ih => Bool.rec (motive := fun _ => Bool) ih true (f a)) l
theorem anyQ_eq {α : Type} (f : α → Bool) (l : List α) : anyQ f l = l.any f := by
  induction l with
  | nil => rfl
  | cons a r ih =>
    show Bool.rec (motive := fun _ => Bool) (anyQ f r) true (f a) = _
    rw [ih, List.any_cons]
    cases f a <;> rfl
noncomputable def dropQ {α : Type} (n : Nat) (l : List α) : List α := Nat.rec (motive := fun _ => List α → List α) (fun l => l) (fun _ ih l => List.rec (motive := fun _ => List α) [] (fun _ r _ => ih r) l) n l
theorem dropQ_eq {α : Type} (n : Nat) (l : List α) : dropQ n l = l.drop n := by
  induction n generalizing l with
  | zero => rfl
  | succ n ih => cases l with
    | nil => rfl
    | cons a r => show dropQ n r = _; rw [ih]; rfl
noncomputable def takeQ {α : Type} (n : Nat) (l : List α) : List α := Nat.rec (motive := fun _ => List α → List α) (fun _ => []) (fun _ ih l => List.rec (motive := fun _ => List α) [] (fun a r _ => a :: ih r) l) n l
theorem takeQ_eq {α : Type} (n : Nat) (l : List α) : takeQ n l = l.take n := by
  induction n generalizing l with
  | zero => rfl
  | succ n ih => cases l with
    | nil => rfl
    | cons a r => show a :: takeQ n r = _; rw [ih]; rfl
noncomputable def revQ {α : Type} (l : List α) : List α := List.rec (motive := fun _ => List α → List α) (fun acc => acc) (fun a _ ih acc => ih (a :: acc)) l []
theorem revQ_eq {α : Type} (l : List α) : revQ l = l.reverse := by
  have key : ∀ (l acc : List α), List.rec (motive := fun _ => List α → List α) (fun acc => acc) (fun a _ ih acc => ih (a :: acc)) l acc = l.reverse ++ acc := by
    intro l
    induction l with
    | nil => intro acc; rfl
    | cons a r ih =>
      intro acc
      show List.rec (motive := fun _ => List α → List α) (fun acc => acc) (fun a _ ih acc => ih (a :: acc)) r (a :: acc) = _
      rw [ih, List.reverse_cons, List.append_assoc]
      rfl
  show List.rec (motive := fun _ => List α → List α) (fun acc => acc) (fun a _ ih acc => ih (a :: acc)) l [] = _
  rw [key, List.append_nil]
noncomputable def getDQ {α : Type} (l : List α) (i : Nat) (d : α) : α := Option.rec (motive := fun _ => α) d (fun a => a) (nthQ l i)
theorem getDQ_eq {α : Type} (l : List α) (i : Nat) (d : α) : getDQ l i d = l.getD i d := by
  unfold getDQ
  rw [nthQ_eq, List.getD_eq_getElem?_getD]
  cases l[i]? <;> rfl
theorem brecC {α : Type} (a b : α) (c : Bool) : Bool.rec (motive := fun _ => α) b a c = bif c then a else b := by cases c <;> rfl
noncomputable def iSubQ (m n : Nat) : Int := Nat.rec (motive := fun _ => Int) (.ofNat (Nat.sub m n)) (fun k _ => .negSucc k) (Nat.sub n m)
theorem iSubQ_eq (m n : Nat) : iSubQ m n = Int.subNatNat m n := by
  show Nat.rec (motive := fun _ => Int) (.ofNat (m - n)) (fun k _ => .negSucc k) (n - m) = _
  unfold Int.subNatNat
  cases n - m <;> rfl
noncomputable def iAddQ (a b : Int) : Int := Int.rec (motive := fun _ => Int) (fun m => Int.rec (motive := fun _ => Int) (fun n => .ofNat (Nat.add m n)) (fun n => iSubQ m (Nat.succ n)) b) (fun m => Int.rec (motive := fun _ => Int) (fun n => iSubQ n (Nat.succ m)) (fun n => .negSucc (Nat.succ (Nat.add m n))) b) a
theorem iAddQ_eq (a b : Int) : iAddQ a b = Int.add a b := by
  cases a with
  | ofNat m => cases b with
    | ofNat n => rfl
    | negSucc n => exact iSubQ_eq m (Nat.succ n)
  | negSucc m => cases b with
    | ofNat n => exact iSubQ_eq n (Nat.succ m)
    | negSucc n => rfl
noncomputable def iNegQ (a : Int) : Int := Int.rec (motive := fun _ => Int) (fun m => Nat.rec (motive := fun _ => Int) (.ofNat (nat_lit 0)) (fun k _ => .negSucc k) m) (fun m => .ofNat (Nat.succ m)) a
theorem iNegQ_eq (a : Int) : iNegQ a = Int.neg a := by
  cases a with
  | ofNat m => cases m <;> rfl
  | negSucc m => rfl
noncomputable def iMulQ (a b : Int) : Int := Int.rec (motive := fun _ => Int) (fun m => Int.rec (motive := fun _ => Int) (fun n => .ofNat (Nat.mul m n)) (fun n => iNegQ (.ofNat (Nat.mul m (Nat.succ n)))) b) (fun m => Int.rec (motive := fun _ => Int) (fun n => iNegQ (.ofNat (Nat.mul (Nat.succ m) n))) (fun n => .ofNat (Nat.mul (Nat.succ m) (Nat.succ n))) b) a
theorem iMulQ_eq (a b : Int) : iMulQ a b = Int.mul a b := by
  cases a with
  | ofNat m => cases b with
    | ofNat n => rfl
    | negSucc n =>
      show iNegQ (.ofNat (m * Nat.succ n)) = Int.negOfNat (m * Nat.succ n)
      cases m * Nat.succ n <;> rfl
  | negSucc m => cases b with
    | ofNat n =>
      show iNegQ (.ofNat (Nat.succ m * n)) = Int.negOfNat (Nat.succ m * n)
      cases Nat.succ m * n <;> rfl
    | negSucc n => rfl
noncomputable def optLQ {α : Type} (o : Option α) : List α := Option.rec (motive := fun _ => List α) [] (fun a => [a]) o
theorem optLQ_eq {α : Type} (o : Option α) : optLQ o = o.toList := by cases o <;> rfl
abbrev Ln : Type := Int × List (Nat × Int)
noncomputable def leI (a b : Int) : Bool :=
  (Int.rec (motive := fun _ => Bool) (fun m_1 => (Int.rec (motive := fun _ => Bool) (fun n_3 => (Nat.ble m_1 n_3)) (fun x_4 => false) b)) (fun x_2 => (Int.rec (motive := fun _ => Bool) (fun x_5 => true) (fun n_6 => (Nat.ble n_6 x_2)) b)) a)
theorem leI_def (a b : Int) : leI a b = (match a, b with
  | .ofNat m, .ofNat n => Nat.ble m n
  | .negSucc _, .ofNat _ => true
  | .ofNat _, .negSucc _ => false
  | .negSucc m, .negSucc n => Nat.ble n m) := by
  show (Int.rec (motive := fun _ => Bool) (fun m_1 => (Int.rec (motive := fun _ => Bool) (fun n_3 => (Nat.ble m_1 n_3)) (fun x_4 => false) b)) (fun x_2 => (Int.rec (motive := fun _ => Bool) (fun x_5 => true) (fun n_6 => (Nat.ble n_6 x_2)) b)) a) = _
  all_goals
    cases a with
    | ofNat y_7 =>
      try dsimp only [cond_false, cond_true]
      all_goals
        cases b with
        | ofNat y_8 =>
          try dsimp only [cond_false, cond_true]
          all_goals rfl
        | negSucc y_9 =>
          try dsimp only [cond_false, cond_true]
          all_goals rfl
    | negSucc y_10 =>
      try dsimp only [cond_false, cond_true]
      all_goals
        cases b with
        | ofNat y_11 =>
          try dsimp only [cond_false, cond_true]
          all_goals rfl
        | negSucc y_12 =>
          try dsimp only [cond_false, cond_true]
          all_goals rfl
theorem leI_iff {a b : Int} : leI a b = true ↔ a ≤ b := by
  cases a with
  | ofNat m =>
    cases b with
    | ofNat n =>
      have e : leI (Int.ofNat m) (Int.ofNat n) = Nat.ble m n := rfl
      rw [e, Nat.ble_eq, Int.ofNat_eq_natCast, Int.ofNat_eq_natCast]
      omega
    | negSucc n =>
      have e : leI (Int.ofNat m) (Int.negSucc n) = false := rfl
      rw [e, Int.ofNat_eq_natCast, Int.negSucc_eq]
      exact ⟨fun h => (by cases h), fun h => (by omega)⟩
  | negSucc m =>
    cases b with
    | ofNat n =>
      have e : leI (Int.negSucc m) (Int.ofNat n) = true := rfl
      rw [e, Int.ofNat_eq_natCast, Int.negSucc_eq]
      exact ⟨fun h => (by omega), fun h => rfl⟩
    | negSucc n =>
      have e : leI (Int.negSucc m) (Int.negSucc n) = Nat.ble n m := rfl
      rw [e, Nat.ble_eq, Int.negSucc_eq, Int.negSucc_eq]
      omega
theorem leI_le {a b : Int} (h : leI a b = true) : a ≤ b := leI_iff.mp h
noncomputable def isZ (a : Int) : Bool :=
  (Int.rec (motive := fun _ => Bool) (fun x_13 => (Nat.rec (motive := fun _ => Bool) true (fun x_15 _ => false) x_13)) (fun x_14 => false) a)
theorem isZ_def (a : Int) : isZ a = (match a with
  | .ofNat 0 => true
  | _ => false) := by
  show (Int.rec (motive := fun _ => Bool) (fun x_13 => (Nat.rec (motive := fun _ => Bool) true (fun x_15 _ => false) x_13)) (fun x_14 => false) a) = _
  all_goals
    cases a with
    | ofNat y_16 =>
      try dsimp only [cond_false, cond_true]
      all_goals
        cases y_16 with
        | zero =>
          try dsimp only [cond_false, cond_true]
          all_goals rfl
        | succ y_17 =>
          try dsimp only [cond_false, cond_true]
          all_goals rfl
    | negSucc y_18 =>
      try dsimp only [cond_false, cond_true]
      all_goals rfl
theorem isZ_eq {a : Int} (h : isZ a = true) : a = 0 := by
  rw [isZ_def] at h
  split at h
  · rfl
  · cases h
noncomputable def eqI (a b : Int) : Bool :=
  (Int.rec (motive := fun _ => Bool) (fun m_19 => (Int.rec (motive := fun _ => Bool) (fun n_21 => (Nat.beq m_19 n_21)) (fun x_22 => false) b)) (fun m_20 => (Int.rec (motive := fun _ => Bool) (fun x_23 => false) (fun n_24 => (Nat.beq m_20 n_24)) b)) a)
theorem eqI_def (a b : Int) : eqI a b = (match a, b with
  | .ofNat m, .ofNat n => Nat.beq m n
  | .negSucc m, .negSucc n => Nat.beq m n
  | _, _ => false) := by
  show (Int.rec (motive := fun _ => Bool) (fun m_19 => (Int.rec (motive := fun _ => Bool) (fun n_21 => (Nat.beq m_19 n_21)) (fun x_22 => false) b)) (fun m_20 => (Int.rec (motive := fun _ => Bool) (fun x_23 => false) (fun n_24 => (Nat.beq m_20 n_24)) b)) a) = _
  all_goals
    cases a with
    | ofNat y_25 =>
      try dsimp only [cond_false, cond_true]
      all_goals
        cases b with
        | ofNat y_26 =>
          try dsimp only [cond_false, cond_true]
          all_goals rfl
        | negSucc y_27 =>
          try dsimp only [cond_false, cond_true]
          all_goals rfl
    | negSucc y_28 =>
      try dsimp only [cond_false, cond_true]
      all_goals
        cases b with
        | ofNat y_29 =>
          try dsimp only [cond_false, cond_true]
          all_goals rfl
        | negSucc y_30 =>
          try dsimp only [cond_false, cond_true]
          all_goals rfl
theorem eqI_eq {a b : Int} (h : eqI a b = true) : a = b := by
  rw [eqI_def] at h
  split at h
  · rw [Nat.eq_of_beq_eq_true h]
  · rw [Nat.eq_of_beq_eq_true h]
  · cases h
noncomputable def evT (ρ : Nat → Int) : List (Nat × Int) → Int
  | [] => 0
  | (s, k) :: r => k * ρ s + evT ρ r
noncomputable def ev (ρ : Nat → Int) (e : Ln) : Int := e.1 + evT ρ e.2
noncomputable def insT (s : Nat) (k : Int) : List (Nat × Int) → List (Nat × Int) :=
  fun e_0 => List.rec (motive := fun _ => List (Nat × Int)) [(s, k)] (fun h_0 t_0 ih => (Prod.rec (motive := fun _ => List (Nat × Int)) (fun t_31 m_32 => (Bool.rec (motive := fun _ => List (Nat × Int)) (Bool.rec (motive := fun _ => List (Nat × Int)) ((t_31, m_32) :: (ih)) ((s, k) :: ((t_31, m_32) :: t_0)) (Nat.ble s t_31)) (Bool.rec (motive := fun _ => List (Nat × Int)) ((t_31, (iAddQ k m_32)) :: t_0) t_0 (isZ (iAddQ k m_32))) (Nat.beq s t_31))) h_0)) e_0 
theorem insT_def (s : Nat) (k : Int) (e_0 : List (Nat × Int)) : insT s k e_0 = (match e_0 with
  | [] => [(s, k)]
  | (t, m) :: r => bif Nat.beq s t then (bif isZ (Int.add k m) then r else (t, Int.add k m) :: r) else bif Nat.ble s t then (s, k) :: (t, m) :: r else (t, m) :: insT s k r) := by
  cases e_0 with
  | nil =>
    show [(s, k)] = _
    try simp only [iAddQ_eq, iMulQ_eq, iNegQ_eq, lenQ_eq, nthQ_eq, setQ_eq, appQ_eq, mapQ_eq, allQ_eq, anyQ_eq, dropQ_eq, takeQ_eq, revQ_eq, getDQ_eq, optLQ_eq, brecC]
    all_goals rfl
  | cons h_0 t_0 =>
    show (Prod.rec (motive := fun _ => List (Nat × Int)) (fun t_33 m_34 => (Bool.rec (motive := fun _ => List (Nat × Int)) (Bool.rec (motive := fun _ => List (Nat × Int)) ((t_33, m_34) :: (insT s k t_0)) ((s, k) :: ((t_33, m_34) :: t_0)) (Nat.ble s t_33)) (Bool.rec (motive := fun _ => List (Nat × Int)) ((t_33, (iAddQ k m_34)) :: t_0) t_0 (isZ (iAddQ k m_34))) (Nat.beq s t_33))) h_0) = _
    try simp only [iAddQ_eq, iMulQ_eq, iNegQ_eq, lenQ_eq, nthQ_eq, setQ_eq, appQ_eq, mapQ_eq, allQ_eq, anyQ_eq, dropQ_eq, takeQ_eq, revQ_eq, getDQ_eq, optLQ_eq, brecC]
    all_goals
      cases h_0 with
      | mk y_35 y_36 =>
        try dsimp only [cond_false, cond_true]
        all_goals
          cases hq_2 : (Nat.beq s y_35) with
          | false =>
            try dsimp only [cond_false, cond_true]
            all_goals
              cases hq_3 : (Nat.ble s y_35) with
              | false =>
                try dsimp only [cond_false, cond_true]
                all_goals rfl
              | true =>
                try dsimp only [cond_false, cond_true]
                all_goals rfl
          | true =>
            try dsimp only [cond_false, cond_true]
            all_goals
              cases hq_4 : (isZ ((Int.add k y_36))) with
              | false =>
                try dsimp only [cond_false, cond_true]
                all_goals rfl
              | true =>
                try dsimp only [cond_false, cond_true]
                all_goals rfl
theorem evT_ins (ρ : Nat → Int) (s : Nat) (k : Int) (l : List (Nat × Int)) : evT ρ (insT s k l) = k * ρ s + evT ρ l := by
  induction l with
  | nil => rfl
  | cons q r ih =>
    obtain ⟨t, m⟩ := q
    rw [insT_def]
    show evT ρ (bif Nat.beq s t then (bif isZ (Int.add k m) then r else (t, Int.add k m) :: r) else bif Nat.ble s t then (s, k) :: (t, m) :: r else (t, m) :: insT s k r) = k * ρ s + (m * ρ t + evT ρ r)
    cases h1 : Nat.beq s t with
    | true =>
      have := Nat.eq_of_beq_eq_true h1
      subst this
      cases h2 : isZ (Int.add k m) with
      | true =>
        have h3 : k + m = 0 := isZ_eq h2
        have h4 : k * ρ s + m * ρ s = 0 := by rw [← Int.add_mul, h3, Int.zero_mul]
        show evT ρ r = _
        omega
      | false =>
        show (k + m) * ρ s + evT ρ r = _
        rw [Int.add_mul]
        omega
    | false =>
      cases h2 : Nat.ble s t with
      | true => rfl
      | false =>
        show m * ρ t + evT ρ (insT s k r) = _
        rw [ih]
        omega
noncomputable def addT (a : List (Nat × Int)) : List (Nat × Int) → List (Nat × Int) :=
  fun e_0 => List.rec (motive := fun _ => List (Nat × Int)) a (fun h_0 t_0 ih => (Prod.rec (motive := fun _ => List (Nat × Int)) (fun s_37 k_38 => (insT s_37 k_38 (ih))) h_0)) e_0 
theorem addT_def (a : List (Nat × Int)) (e_0 : List (Nat × Int)) : addT a e_0 = (match e_0 with
  | [] => a
  | (s, k) :: r => insT s k (addT a r)) := by
  cases e_0 with
  | nil =>
    show a = _
    try simp only [iAddQ_eq, iMulQ_eq, iNegQ_eq, lenQ_eq, nthQ_eq, setQ_eq, appQ_eq, mapQ_eq, allQ_eq, anyQ_eq, dropQ_eq, takeQ_eq, revQ_eq, getDQ_eq, optLQ_eq, brecC]
    all_goals rfl
  | cons h_0 t_0 =>
    show (Prod.rec (motive := fun _ => List (Nat × Int)) (fun s_39 k_40 => (insT s_39 k_40 (addT a t_0))) h_0) = _
    try simp only [iAddQ_eq, iMulQ_eq, iNegQ_eq, lenQ_eq, nthQ_eq, setQ_eq, appQ_eq, mapQ_eq, allQ_eq, anyQ_eq, dropQ_eq, takeQ_eq, revQ_eq, getDQ_eq, optLQ_eq, brecC]
    all_goals
      cases h_0 with
      | mk y_41 y_42 =>
        try dsimp only [cond_false, cond_true]
        all_goals rfl
theorem evT_add (ρ : Nat → Int) (a b : List (Nat × Int)) : evT ρ (addT a b) = evT ρ a + evT ρ b := by
  induction b with
  | nil => show evT ρ a = evT ρ a + 0; omega
  | cons q r ih =>
    obtain ⟨s, k⟩ := q
    show evT ρ (insT s k (addT a r)) = evT ρ a + (k * ρ s + evT ρ r)
    rw [evT_ins, ih]
    omega
noncomputable def sclT (k : Int) : List (Nat × Int) → List (Nat × Int) :=
  fun e_0 => List.rec (motive := fun _ => List (Nat × Int)) [] (fun h_0 t_0 ih => (Prod.rec (motive := fun _ => List (Nat × Int)) (fun s_43 m_44 => ((s_43, (iMulQ k m_44)) :: (ih))) h_0)) e_0 
theorem sclT_def (k : Int) (e_0 : List (Nat × Int)) : sclT k e_0 = (match e_0 with
  | [] => []
  | (s, m) :: r => (s, Int.mul k m) :: sclT k r) := by
  cases e_0 with
  | nil =>
    show [] = _
    try simp only [iAddQ_eq, iMulQ_eq, iNegQ_eq, lenQ_eq, nthQ_eq, setQ_eq, appQ_eq, mapQ_eq, allQ_eq, anyQ_eq, dropQ_eq, takeQ_eq, revQ_eq, getDQ_eq, optLQ_eq, brecC]
    all_goals rfl
  | cons h_0 t_0 =>
    show (Prod.rec (motive := fun _ => List (Nat × Int)) (fun s_45 m_46 => ((s_45, (iMulQ k m_46)) :: (sclT k t_0))) h_0) = _
    try simp only [iAddQ_eq, iMulQ_eq, iNegQ_eq, lenQ_eq, nthQ_eq, setQ_eq, appQ_eq, mapQ_eq, allQ_eq, anyQ_eq, dropQ_eq, takeQ_eq, revQ_eq, getDQ_eq, optLQ_eq, brecC]
    all_goals
      cases h_0 with
      | mk y_47 y_48 =>
        try dsimp only [cond_false, cond_true]
        all_goals rfl
theorem evT_scl (ρ : Nat → Int) (k : Int) (a : List (Nat × Int)) : evT ρ (sclT k a) = k * evT ρ a := by
  induction a with
  | nil => show (0 : Int) = k * 0; omega
  | cons q r ih =>
    obtain ⟨s, m⟩ := q
    rw [sclT_def]
    show (k * m) * ρ s + evT ρ (sclT k r) = k * (m * ρ s + evT ρ r)
    rw [ih, Int.mul_add, Int.mul_assoc]
noncomputable def kL (c : Int) : Ln := (c, [])
noncomputable def sL (s : Nat) : Ln := (0, [(s, 1)])
noncomputable def addL (a b : Ln) : Ln :=
  ((iAddQ a.1 b.1), (addT a.2 b.2))
theorem addL_def (a b : Ln) : addL a b = (Int.add a.1 b.1, addT a.2 b.2) := by
  show ((iAddQ a.1 b.1), (addT a.2 b.2)) = _
  try simp only [iAddQ_eq, iMulQ_eq, iNegQ_eq, lenQ_eq, nthQ_eq, setQ_eq, appQ_eq, mapQ_eq, allQ_eq, anyQ_eq, dropQ_eq, takeQ_eq, revQ_eq, getDQ_eq, optLQ_eq, brecC]
  all_goals rfl
noncomputable def sclL (k : Int) (a : Ln) : Ln :=
  (Bool.rec (motive := fun _ => Ln) ((iMulQ k a.1), (sclT k a.2)) (.ofNat (nat_lit 0), []) (isZ k))
theorem sclL_def (k : Int) (a : Ln) : sclL k a = bif isZ k then (0, []) else (Int.mul k a.1, sclT k a.2) := by
  show (Bool.rec (motive := fun _ => Ln) ((iMulQ k a.1), (sclT k a.2)) (.ofNat (nat_lit 0), []) (isZ k)) = _
  try simp only [iAddQ_eq, iMulQ_eq, iNegQ_eq, lenQ_eq, nthQ_eq, setQ_eq, appQ_eq, mapQ_eq, allQ_eq, anyQ_eq, dropQ_eq, takeQ_eq, revQ_eq, getDQ_eq, optLQ_eq, brecC]
  all_goals
    cases hq_1 : (isZ k) with
    | false =>
      try dsimp only [cond_false, cond_true]
      all_goals rfl
    | true =>
      try dsimp only [cond_false, cond_true]
      all_goals rfl
noncomputable def subL (a b : Ln) : Ln :=
  (addL a (sclL (.negSucc (nat_lit 0)) b))
theorem subL_def (a b : Ln) : subL a b = addL a (sclL (.negSucc 0) b) := by
  show (addL a (sclL (.negSucc (nat_lit 0)) b)) = _
  all_goals rfl
noncomputable def pluL (a : Ln) (c : Int) : Ln :=
  ((iAddQ a.1 c), a.2)
theorem pluL_def (a : Ln) (c : Int) : pluL a c = (Int.add a.1 c, a.2) := by
  show ((iAddQ a.1 c), a.2) = _
  try simp only [iAddQ_eq, iMulQ_eq, iNegQ_eq, lenQ_eq, nthQ_eq, setQ_eq, appQ_eq, mapQ_eq, allQ_eq, anyQ_eq, dropQ_eq, takeQ_eq, revQ_eq, getDQ_eq, optLQ_eq, brecC]
  all_goals rfl
theorem ev_k (ρ : Nat → Int) (c : Int) : ev ρ (kL c) = c := by show c + 0 = c; omega
theorem ev_s (ρ : Nat → Int) (s : Nat) : ev ρ (sL s) = ρ s := by show 0 + (1 * ρ s + 0) = ρ s; omega
theorem ev_add (ρ : Nat → Int) (a b : Ln) : ev ρ (addL a b) = ev ρ a + ev ρ b := by
  rw [addL_def]
  show (a.1 + b.1) + evT ρ (addT a.2 b.2) = (a.1 + evT ρ a.2) + (b.1 + evT ρ b.2)
  rw [evT_add]
  omega
theorem ev_scl (ρ : Nat → Int) (k : Int) (a : Ln) : ev ρ (sclL k a) = k * ev ρ a := by
  rw [sclL_def]
  cases h : isZ k with
  | true => rw [isZ_eq h, Int.zero_mul]; rfl
  | false =>
    show k * a.1 + evT ρ (sclT k a.2) = k * (a.1 + evT ρ a.2)
    rw [evT_scl, Int.mul_add]
theorem ev_sub (ρ : Nat → Int) (a b : Ln) : ev ρ (subL a b) = ev ρ a - ev ρ b := by
  rw [subL_def]
  rw [ev_add, ev_scl]
  show ev ρ a + (-1) * ev ρ b = _
  omega
theorem ev_plu (ρ : Nat → Int) (a : Ln) (c : Int) : ev ρ (pluL a c) = ev ρ a + c := by
  rw [pluL_def]
  show (a.1 + c) + evT ρ a.2 = (a.1 + evT ρ a.2) + c
  omega
-- what is known
abbrev TbL : Type := List (Nat × Int × Int)
/-- bounds: what came last, in a list; below it a function -/
abbrev Tb : Type := TbL × (Nat → Option (Int × Int))
noncomputable def tbIns (s : Nat) (lo hi : Int) (tab : Tb) : Tb :=
  (((s, lo, hi) :: tab.1), tab.2)
theorem tbIns_def (s : Nat) (lo hi : Int) (tab : Tb) : tbIns s lo hi tab = ((s, lo, hi) :: tab.1, tab.2) := by
  show (((s, lo, hi) :: tab.1), tab.2) = _
  all_goals rfl
noncomputable def tbLkL (s : Nat) (d : Option (Int × Int)) : TbL → Option (Int × Int) :=
  fun e_0 => List.rec (motive := fun _ => Option (Int × Int)) d (fun h_0 t_0 ih => (Prod.rec (motive := fun _ => Option (Int × Int)) (fun t_49 b_50 => (Bool.rec (motive := fun _ => Option (Int × Int)) (ih) (some b_50) (Nat.beq s t_49))) h_0)) e_0 
theorem tbLkL_def (s : Nat) (d : Option (Int × Int)) (e_0 : TbL) : tbLkL s d e_0 = (match e_0 with
  | [] => d
  | (t, b) :: r => bif Nat.beq s t then some b else tbLkL s d r) := by
  cases e_0 with
  | nil =>
    show d = _
    try simp only [iAddQ_eq, iMulQ_eq, iNegQ_eq, lenQ_eq, nthQ_eq, setQ_eq, appQ_eq, mapQ_eq, allQ_eq, anyQ_eq, dropQ_eq, takeQ_eq, revQ_eq, getDQ_eq, optLQ_eq, brecC]
    all_goals rfl
  | cons h_0 t_0 =>
    show (Prod.rec (motive := fun _ => Option (Int × Int)) (fun t_51 b_52 => (Bool.rec (motive := fun _ => Option (Int × Int)) (tbLkL s d t_0) (some b_52) (Nat.beq s t_51))) h_0) = _
    try simp only [iAddQ_eq, iMulQ_eq, iNegQ_eq, lenQ_eq, nthQ_eq, setQ_eq, appQ_eq, mapQ_eq, allQ_eq, anyQ_eq, dropQ_eq, takeQ_eq, revQ_eq, getDQ_eq, optLQ_eq, brecC]
    all_goals
      cases h_0 with
      | mk y_53 y_54 =>
        try dsimp only [cond_false, cond_true]
        all_goals
          cases hq_2 : (Nat.beq s y_53) with
          | false =>
            try dsimp only [cond_false, cond_true]
            all_goals rfl
          | true =>
            try dsimp only [cond_false, cond_true]
            all_goals rfl
noncomputable def tbLk (s : Nat) (tab : Tb) : Option (Int × Int) :=
  (tbLkL s (tab.2 s) tab.1)
theorem tbLk_def (s : Nat) (tab : Tb) : tbLk s tab = tbLkL s (tab.2 s) tab.1 := by
  show (tbLkL s (tab.2 s) tab.1) = _
  all_goals rfl
noncomputable def tOkL (ρ : Nat → Int) (tab : TbL) : Prop := ∀ q ∈ tab, q.2.1 ≤ ρ q.1 ∧ ρ q.1 ≤ q.2.2
noncomputable def tOk (ρ : Nat → Int) (tab : Tb) : Prop := tOkL ρ tab.1 ∧ ∀ s b, tab.2 s = some b → b.1 ≤ ρ s ∧ ρ s ≤ b.2
noncomputable def fOk (ρ : Nat → Int) (fs : List Ln) : Prop := ∀ f ∈ fs, ev ρ f ≤ 0
theorem tbLkL_ok {ρ : Nat → Int} {l : TbL} (h : tOkL ρ l) {s : Nat} {d : Option (Int × Int)} {b : Int × Int} (hl : tbLkL s d l = some b) : d = some b ∨ (b.1 ≤ ρ s ∧ ρ s ≤ b.2) := by
  induction l with
  | nil => exact Or.inl hl
  | cons q r ih =>
    obtain ⟨t, c⟩ := q
    rw [tbLkL_def] at hl
    try dsimp only at hl
    cases h1 : Nat.beq s t with
    | true =>
      rw [h1] at hl
      cases hl
      have := Nat.eq_of_beq_eq_true h1
      subst this
      exact Or.inr (h _ List.mem_cons_self)
    | false =>
      rw [h1] at hl
      exact ih (fun q hq => h q (List.mem_cons_of_mem _ hq)) hl
theorem tbLk_ok {ρ : Nat → Int} {tab : Tb} (h : tOk ρ tab) {s : Nat} {b : Int × Int} (hl : tbLk s tab = some b) : b.1 ≤ ρ s ∧ ρ s ≤ b.2 := by
  have hl' : tbLkL s (tab.2 s) tab.1 = some b := hl
  rcases tbLkL_ok h.1 hl' with q | q
  · exact h.2 s b q
  · exact q
/-- a sorted list as a function: 2 ^ n of its entries -/
noncomputable def balT  : Nat → TbL → Nat × (Nat → Option (Int × Int)) × TbL :=
  fun e_0 e_1 => Nat.rec (motive := fun _ => TbL → Nat × (Nat → Option (Int × Int)) × TbL) (fun e_1 => (List.rec (motive := fun _ => Nat × (Nat → Option (Int × Int)) × TbL) ((nat_lit 0), (fun _ => none), []) (fun x_55 r_56 _ => (Prod.rec (motive := fun _ => Nat × (Nat → Option (Int × Int)) × TbL) (fun s_57 b_58 => (s_57, (fun t => (Bool.rec (motive := fun _ => _) none (some b_58) (Nat.beq t s_57))), r_56)) x_55)) e_1)) (fun t_0 ih e_1 => (Prod.rec (motive := fun _ => Nat × (Nat → Option (Int × Int)) × TbL) (fun m_59 x_60 => (Prod.rec (motive := fun _ => Nat × (Nat → Option (Int × Int)) × TbL) (fun f_61 x_62 => (List.rec (motive := fun _ => Nat × (Nat → Option (Int × Int)) × TbL) (m_59, f_61, []) (fun q_63 r_64 _ => (Prod.rec (motive := fun _ => Nat × (Nat → Option (Int × Int)) × TbL) (fun m2_65 x_66 => (Prod.rec (motive := fun _ => Nat × (Nat → Option (Int × Int)) × TbL) (fun f2_67 r2_68 => (m_59, (fun t => (Bool.rec (motive := fun _ => _) (f_61 t) (f2_67 t) (Nat.ble m2_65 t))), r2_68)) x_66)) (ih (q_63 :: r_64)))) x_62)) x_60)) (ih e_1))) e_0 e_1
theorem balT_def  (e_0 : Nat) (e_1 : TbL) : balT  e_0 e_1 = (match e_0, e_1 with
  | 0, [] => (0, fun _ => none, [])
  | 0, (s, b) :: r => (s, fun t => bif Nat.beq t s then some b else none, r)
  | n + 1, l => match balT n l with
    | (m, f, []) => (m, f, [])
    | (m, f, q :: r) => match balT n (q :: r) with
      | (m2, f2, r2) => (m, fun t => bif Nat.ble m2 t then f2 t else f t, r2)) := by
  cases e_0 with
  | zero =>
    show (List.rec (motive := fun _ => Nat × (Nat → Option (Int × Int)) × TbL) ((nat_lit 0), (fun _ => none), []) (fun x_69 r_70 _ => (Prod.rec (motive := fun _ => Nat × (Nat → Option (Int × Int)) × TbL) (fun s_71 b_72 => (s_71, (fun t => (Bool.rec (motive := fun _ => _) none (some b_72) (Nat.beq t s_71))), r_70)) x_69)) e_1) = _
    try simp only [iAddQ_eq, iMulQ_eq, iNegQ_eq, lenQ_eq, nthQ_eq, setQ_eq, appQ_eq, mapQ_eq, allQ_eq, anyQ_eq, dropQ_eq, takeQ_eq, revQ_eq, getDQ_eq, optLQ_eq, brecC]
    all_goals
      cases e_1 with
      | nil =>
        try dsimp only [cond_false, cond_true]
        all_goals rfl
      | cons y_73 y_74 =>
        try dsimp only [cond_false, cond_true]
        all_goals
          cases y_73 with
          | mk y_75 y_76 =>
            try dsimp only [cond_false, cond_true]
            all_goals rfl
  | succ t_0 =>
    show (Prod.rec (motive := fun _ => Nat × (Nat → Option (Int × Int)) × TbL) (fun m_77 x_78 => (Prod.rec (motive := fun _ => Nat × (Nat → Option (Int × Int)) × TbL) (fun f_79 x_80 => (List.rec (motive := fun _ => Nat × (Nat → Option (Int × Int)) × TbL) (m_77, f_79, []) (fun q_81 r_82 _ => (Prod.rec (motive := fun _ => Nat × (Nat → Option (Int × Int)) × TbL) (fun m2_83 x_84 => (Prod.rec (motive := fun _ => Nat × (Nat → Option (Int × Int)) × TbL) (fun f2_85 r2_86 => (m_77, (fun t => (Bool.rec (motive := fun _ => _) (f_79 t) (f2_85 t) (Nat.ble m2_83 t))), r2_86)) x_84)) (balT t_0 (q_81 :: r_82)))) x_80)) x_78)) (balT t_0 e_1)) = _
    try simp only [iAddQ_eq, iMulQ_eq, iNegQ_eq, lenQ_eq, nthQ_eq, setQ_eq, appQ_eq, mapQ_eq, allQ_eq, anyQ_eq, dropQ_eq, takeQ_eq, revQ_eq, getDQ_eq, optLQ_eq, brecC]
    all_goals
      cases hq_3 : (balT t_0 e_1) with
      | mk y_87 y_88 =>
        try dsimp only [cond_false, cond_true]
        all_goals
          cases y_88 with
          | mk y_89 y_90 =>
            try dsimp only [cond_false, cond_true]
            all_goals
              cases y_90 with
              | nil =>
                try dsimp only [cond_false, cond_true]
                all_goals rfl
              | cons y_91 y_92 =>
                try dsimp only [cond_false, cond_true]
                all_goals
                  cases hq_6 : (balT t_0 ((y_91 :: y_92))) with
                  | mk y_93 y_94 =>
                    try dsimp only [cond_false, cond_true]
                    all_goals
                      cases y_94 with
                      | mk y_95 y_96 =>
                        try dsimp only [cond_false, cond_true]
                        all_goals rfl
theorem balT_ok : ∀ (n : Nat) (l : TbL), (∀ q ∈ (balT n l).2.2, q ∈ l) ∧ ∀ t b, (balT n l).2.1 t = some b → (t, b) ∈ l := by
  intro n
  induction n with
  | zero =>
    intro l
    cases l with
    | nil => exact ⟨fun q hq => (by rw [balT_def] at hq; exact hq), fun t b h => by rw [balT_def] at h; cases h⟩
    | cons q r =>
      obtain ⟨s, c⟩ := q
      refine ⟨fun q hq => (by rw [balT_def] at hq; exact List.mem_cons_of_mem _ hq), fun t b h => ?_⟩
      rw [balT_def] at h
      have h' : (bif Nat.beq t s then some c else none) = some b := h
      cases h1 : Nat.beq t s with
      | true =>
        rw [h1] at h'
        cases h'
        have := Nat.eq_of_beq_eq_true h1
        subst this
        exact List.mem_cons_self
      | false => rw [h1] at h'; cases h'
  | succ n ih =>
    intro l
    have e : balT (n + 1) l = (match balT n l with
      | (m, f, []) => (m, f, [])
      | (m, f, q :: r) => match balT n (q :: r) with
        | (m2, f2, r2) => (m, fun t => bif Nat.ble m2 t then f2 t else f t, r2)) := balT_def (n + 1) l
    have i1 := ih l
    cases hb : balT n l with
    | mk m x =>
      obtain ⟨f, r1⟩ := x
      rw [hb] at e i1
      cases r1 with
      | nil => rw [e]; exact i1
      | cons q r =>
        have i2 := ih (q :: r)
        cases hb2 : balT n (q :: r) with
        | mk m2 y =>
          obtain ⟨f2, r2⟩ := y
          try dsimp only at e
          rw [hb2] at e i2
          rw [e]
          refine ⟨fun p hp => i1.1 p (i2.1 p hp), fun t b h => ?_⟩
          have h' : (bif Nat.ble m2 t then f2 t else f t) = some b := h
          cases h1 : Nat.ble m2 t with
          | true => rw [h1] at h'; exact i1.1 _ (i2.2 t b h')
          | false => rw [h1] at h'; exact i1.2 t b h'
noncomputable def tbOf (l : TbL) : Tb :=
  ([], (balT (nat_lit 9) l).2.1)
theorem tbOf_def (l : TbL) : tbOf l = ([], (balT 9 l).2.1) := by
  show ([], (balT (nat_lit 9) l).2.1) = _
  all_goals rfl
theorem tbOf_ok {ρ : Nat → Int} {l : TbL} (h : tOkL ρ l) : tOk ρ (tbOf l) := ⟨fun q hq => (by cases hq), fun s b hb => h (s, b) ((balT_ok 9 l).2 s b hb)⟩
noncomputable def ubT (tab : Tb) : List (Nat × Int) → Int → Option Int :=
  fun e_0 e_1 => List.rec (motive := fun _ => Int → Option Int) (fun e_1 => (some e_1)) (fun h_0 t_0 ih e_1 => (Prod.rec (motive := fun _ => Option Int) (fun s_97 k_98 => (Option.rec (motive := fun _ => Option Int) none (fun x_99 => (Prod.rec (motive := fun _ => Option Int) (fun lo_100 hi_101 => (ih (iAddQ e_1 (iMulQ k_98 (Bool.rec (motive := fun _ => _) lo_100 hi_101 (leI (.ofNat (nat_lit 0)) k_98)))))) x_99)) (tbLk s_97 tab))) h_0)) e_0 e_1
theorem ubT_def (tab : Tb) (e_0 : List (Nat × Int)) (e_1 : Int) : ubT tab e_0 e_1 = (match e_0, e_1 with
  | [], acc => some acc
  | (s, k) :: r, acc => match tbLk s tab with
    | some (lo, hi) => ubT tab r (Int.add acc (Int.mul k (bif leI 0 k then hi else lo)))
    | none => none) := by
  cases e_0 with
  | nil =>
    show (some e_1) = _
    try simp only [iAddQ_eq, iMulQ_eq, iNegQ_eq, lenQ_eq, nthQ_eq, setQ_eq, appQ_eq, mapQ_eq, allQ_eq, anyQ_eq, dropQ_eq, takeQ_eq, revQ_eq, getDQ_eq, optLQ_eq, brecC]
    all_goals rfl
  | cons h_0 t_0 =>
    show (Prod.rec (motive := fun _ => Option Int) (fun s_102 k_103 => (Option.rec (motive := fun _ => Option Int) none (fun x_104 => (Prod.rec (motive := fun _ => Option Int) (fun lo_105 hi_106 => (ubT tab t_0 (iAddQ e_1 (iMulQ k_103 (Bool.rec (motive := fun _ => _) lo_105 hi_106 (leI (.ofNat (nat_lit 0)) k_103)))))) x_104)) (tbLk s_102 tab))) h_0) = _
    try simp only [iAddQ_eq, iMulQ_eq, iNegQ_eq, lenQ_eq, nthQ_eq, setQ_eq, appQ_eq, mapQ_eq, allQ_eq, anyQ_eq, dropQ_eq, takeQ_eq, revQ_eq, getDQ_eq, optLQ_eq, brecC]
    all_goals
      cases h_0 with
      | mk y_107 y_108 =>
        try dsimp only [cond_false, cond_true]
        all_goals
          cases hq_2 : (tbLk y_107 tab) with
          | none =>
            try dsimp only [cond_false, cond_true]
            all_goals rfl
          | some y_109 =>
            try dsimp only [cond_false, cond_true]
            all_goals
              cases y_109 with
              | mk y_110 y_111 =>
                try dsimp only [cond_false, cond_true]
                all_goals rfl
noncomputable def ub (tab : Tb) (e : Ln) : Option Int :=
  (ubT tab e.2 e.1)
theorem ub_def (tab : Tb) (e : Ln) : ub tab e = ubT tab e.2 e.1 := by
  show (ubT tab e.2 e.1) = _
  all_goals rfl
theorem mul_le_hi {k x lo hi : Int} (h : lo ≤ x ∧ x ≤ hi) : k * x ≤ k * (bif leI 0 k then hi else lo) := by
  cases h1 : leI 0 k with
  | true => exact Int.mul_le_mul_of_nonneg_left h.2 (leI_le h1)
  | false =>
    have h2 : ¬ (0 ≤ k) := fun q => by rw [leI_iff.mpr q] at h1; cases h1
    have h3 : k * x ≤ k * lo := Int.mul_le_mul_of_nonpos_left (by omega) h.1
    exact h3
theorem ubT_ok {ρ : Nat → Int} {tab : Tb} (h : tOk ρ tab) {l : List (Nat × Int)} {acc b : Int} (hb : ubT tab l acc = some b) : acc + evT ρ l ≤ b := by
  induction l generalizing acc with
  | nil =>
    cases hb
    show b + 0 ≤ b
    omega
  | cons q r ih =>
    obtain ⟨s, k⟩ := q
    rw [ubT_def] at hb
    try dsimp only at hb
    cases h1 : tbLk s tab with
    | none => rw [h1] at hb; cases hb
    | some c =>
      obtain ⟨lo, hi⟩ := c
      rw [h1] at hb
      have h2 := ih hb
      have h3 : k * ρ s ≤ k * (bif leI 0 k then hi else lo) := mul_le_hi (tbLk_ok h h1)
      show acc + (k * ρ s + evT ρ r) ≤ b
      simp only [Int.add_def, Int.mul_def] at h2
      omega
theorem ub_ok {ρ : Nat → Int} {tab : Tb} (h : tOk ρ tab) {e : Ln} {b : Int} (hb : ub tab e = some b) : ev ρ e ≤ b := ubT_ok h hb
noncomputable def lb (tab : Tb) (e : Ln) : Option Int :=
  (Option.rec (motive := fun _ => Option Int) none (fun b_112 => (some (iNegQ b_112))) (ub tab (sclL (.negSucc (nat_lit 0)) e)))
theorem lb_def (tab : Tb) (e : Ln) : lb tab e = (match ub tab (sclL (.negSucc 0) e) with
  | some b => some (Int.neg b)
  | none => none) := by
  show (Option.rec (motive := fun _ => Option Int) none (fun b_112 => (some (iNegQ b_112))) (ub tab (sclL (.negSucc (nat_lit 0)) e))) = _
  try simp only [iAddQ_eq, iMulQ_eq, iNegQ_eq, lenQ_eq, nthQ_eq, setQ_eq, appQ_eq, mapQ_eq, allQ_eq, anyQ_eq, dropQ_eq, takeQ_eq, revQ_eq, getDQ_eq, optLQ_eq, brecC]
  all_goals
    cases hq_1 : (ub tab ((sclL ((.negSucc 0)) e))) with
    | none =>
      try dsimp only [cond_false, cond_true]
      all_goals rfl
    | some y_113 =>
      try dsimp only [cond_false, cond_true]
      all_goals rfl
theorem lb_ok {ρ : Nat → Int} {tab : Tb} (h : tOk ρ tab) {e : Ln} {b : Int} (hb : lb tab e = some b) : b ≤ ev ρ e := by
  rw [lb_def] at hb
  cases h1 : ub tab (sclL (.negSucc 0) e) with
  | none => rw [h1] at hb; cases hb
  | some c =>
    rw [h1] at hb
    cases hb
    have h2 := ub_ok h h1
    rw [ev_scl] at h2
    have h3 : (Int.negSucc 0) * ev ρ e = - ev ρ e := by show (-1) * ev ρ e = _; omega
    show - c ≤ ev ρ e
    omega
noncomputable def ub0 (tab : Tb) (e : Ln) : Bool :=
  (Option.rec (motive := fun _ => Bool) false (fun b_114 => (leI b_114 (.ofNat (nat_lit 0)))) (ub tab e))
theorem ub0_def (tab : Tb) (e : Ln) : ub0 tab e = (match ub tab e with
  | some b => leI b 0
  | none => false) := by
  show (Option.rec (motive := fun _ => Bool) false (fun b_114 => (leI b_114 (.ofNat (nat_lit 0)))) (ub tab e)) = _
  all_goals
    cases hq_1 : (ub tab e) with
    | none =>
      try dsimp only [cond_false, cond_true]
      all_goals rfl
    | some y_115 =>
      try dsimp only [cond_false, cond_true]
      all_goals rfl
theorem ub0_ok {ρ : Nat → Int} {tab : Tb} (h : tOk ρ tab) {e : Ln} (hb : ub0 tab e = true) : ev ρ e ≤ 0 := by
  rw [ub0_def] at hb
  cases h1 : ub tab e with
  | none => rw [h1] at hb; cases hb
  | some c =>
    rw [h1] at hb
    exact Int.le_trans (ub_ok h h1) (leI_le hb)
noncomputable def memT (s : Nat) : List (Nat × Int) → Bool :=
  fun e_0 => List.rec (motive := fun _ => Bool) false (fun h_0 t_0 ih => (Prod.rec (motive := fun _ => Bool) (fun t_116 x_117 => (Bool.rec (motive := fun _ => Bool) (ih) true (Nat.beq s t_116))) h_0)) e_0 
theorem memT_def (s : Nat) (e_0 : List (Nat × Int)) : memT s e_0 = (match e_0 with
  | [] => false
  | (t, _) :: r => bif Nat.beq s t then true else memT s r) := by
  cases e_0 with
  | nil =>
    show false = _
    try simp only [iAddQ_eq, iMulQ_eq, iNegQ_eq, lenQ_eq, nthQ_eq, setQ_eq, appQ_eq, mapQ_eq, allQ_eq, anyQ_eq, dropQ_eq, takeQ_eq, revQ_eq, getDQ_eq, optLQ_eq, brecC]
    all_goals rfl
  | cons h_0 t_0 =>
    show (Prod.rec (motive := fun _ => Bool) (fun t_118 x_119 => (Bool.rec (motive := fun _ => Bool) (memT s t_0) true (Nat.beq s t_118))) h_0) = _
    try simp only [iAddQ_eq, iMulQ_eq, iNegQ_eq, lenQ_eq, nthQ_eq, setQ_eq, appQ_eq, mapQ_eq, allQ_eq, anyQ_eq, dropQ_eq, takeQ_eq, revQ_eq, getDQ_eq, optLQ_eq, brecC]
    all_goals
      cases h_0 with
      | mk y_120 y_121 =>
        try dsimp only [cond_false, cond_true]
        all_goals
          cases hq_2 : (Nat.beq s y_120) with
          | false =>
            try dsimp only [cond_false, cond_true]
            all_goals rfl
          | true =>
            try dsimp only [cond_false, cond_true]
            all_goals rfl
/-- a symbol in common: other facts don't help -/
noncomputable def shT (a : List (Nat × Int)) : List (Nat × Int) → Bool :=
  fun e_0 => List.rec (motive := fun _ => Bool) false (fun h_0 t_0 ih => (Prod.rec (motive := fun _ => Bool) (fun t_122 x_123 => (Bool.rec (motive := fun _ => Bool) (ih) true (memT t_122 a))) h_0)) e_0 
theorem shT_def (a : List (Nat × Int)) (e_0 : List (Nat × Int)) : shT a e_0 = (match e_0 with
  | [] => false
  | (t, _) :: r => bif memT t a then true else shT a r) := by
  cases e_0 with
  | nil =>
    show false = _
    try simp only [iAddQ_eq, iMulQ_eq, iNegQ_eq, lenQ_eq, nthQ_eq, setQ_eq, appQ_eq, mapQ_eq, allQ_eq, anyQ_eq, dropQ_eq, takeQ_eq, revQ_eq, getDQ_eq, optLQ_eq, brecC]
    all_goals rfl
  | cons h_0 t_0 =>
    show (Prod.rec (motive := fun _ => Bool) (fun t_124 x_125 => (Bool.rec (motive := fun _ => Bool) (shT a t_0) true (memT t_124 a))) h_0) = _
    try simp only [iAddQ_eq, iMulQ_eq, iNegQ_eq, lenQ_eq, nthQ_eq, setQ_eq, appQ_eq, mapQ_eq, allQ_eq, anyQ_eq, dropQ_eq, takeQ_eq, revQ_eq, getDQ_eq, optLQ_eq, brecC]
    all_goals
      cases h_0 with
      | mk y_126 y_127 =>
        try dsimp only [cond_false, cond_true]
        all_goals
          cases hq_2 : (memT y_126 a) with
          | false =>
            try dsimp only [cond_false, cond_true]
            all_goals rfl
          | true =>
            try dsimp only [cond_false, cond_true]
            all_goals rfl
noncomputable def anyF (tab : Tb) (e : Ln) : List Ln → Bool :=
  fun e_0 => List.rec (motive := fun _ => Bool) false (fun h_0 t_0 ih => (Bool.rec (motive := fun _ => Bool) (ih) true (Bool.rec (motive := fun _ => Bool) false (ub0 tab (subL e h_0)) (shT e.2 h_0.2)))) e_0 
theorem anyF_def (tab : Tb) (e : Ln) (e_0 : List Ln) : anyF tab e e_0 = (match e_0 with
  | [] => false
  | f :: r => bif (bif shT e.2 f.2 then ub0 tab (subL e f) else false) then true else anyF tab e r) := by
  cases e_0 with
  | nil =>
    show false = _
    try simp only [iAddQ_eq, iMulQ_eq, iNegQ_eq, lenQ_eq, nthQ_eq, setQ_eq, appQ_eq, mapQ_eq, allQ_eq, anyQ_eq, dropQ_eq, takeQ_eq, revQ_eq, getDQ_eq, optLQ_eq, brecC]
    all_goals rfl
  | cons h_0 t_0 =>
    show (Bool.rec (motive := fun _ => Bool) (anyF tab e t_0) true (Bool.rec (motive := fun _ => Bool) false (ub0 tab (subL e h_0)) (shT e.2 h_0.2))) = _
    try simp only [iAddQ_eq, iMulQ_eq, iNegQ_eq, lenQ_eq, nthQ_eq, setQ_eq, appQ_eq, mapQ_eq, allQ_eq, anyQ_eq, dropQ_eq, takeQ_eq, revQ_eq, getDQ_eq, optLQ_eq, brecC]
    all_goals
      cases hq_1 : ((bif (shT e.2 h_0.2) then (ub0 tab ((subL e h_0))) else false)) with
      | false =>
        try dsimp only [cond_false, cond_true]
        all_goals rfl
      | true =>
        try dsimp only [cond_false, cond_true]
        all_goals rfl
/-- 'e ≤ 0', by the bounds, or by them and one of the facts -/
noncomputable def le0 (tab : Tb) (fs : List Ln) (e : Ln) : Bool :=
  (Bool.rec (motive := fun _ => Bool) (anyF tab e fs) true (ub0 tab e))
theorem le0_def (tab : Tb) (fs : List Ln) (e : Ln) : le0 tab fs e = bif ub0 tab e then true else anyF tab e fs := by
  show (Bool.rec (motive := fun _ => Bool) (anyF tab e fs) true (ub0 tab e)) = _
  try simp only [iAddQ_eq, iMulQ_eq, iNegQ_eq, lenQ_eq, nthQ_eq, setQ_eq, appQ_eq, mapQ_eq, allQ_eq, anyQ_eq, dropQ_eq, takeQ_eq, revQ_eq, getDQ_eq, optLQ_eq, brecC]
  all_goals
    cases hq_1 : (ub0 tab e) with
    | false =>
      try dsimp only [cond_false, cond_true]
      all_goals rfl
    | true =>
      try dsimp only [cond_false, cond_true]
      all_goals rfl
theorem anyF_ok {ρ : Nat → Int} {tab : Tb} (h : tOk ρ tab) {e : Ln} {fs : List Ln} (hf : fOk ρ fs) (hb : anyF tab e fs = true) : ev ρ e ≤ 0 := by
  induction fs with
  | nil => cases hb
  | cons f r ih =>
    rw [anyF_def] at hb
    try dsimp only at hb
    cases h1 : (bif shT e.2 f.2 then ub0 tab (subL e f) else false) with
    | true =>
      have h1' : ub0 tab (subL e f) = true := by
        cases hs : shT e.2 f.2 with
        | true => rw [hs] at h1; exact h1
        | false => rw [hs] at h1; cases h1
      have h2 := ub0_ok h h1'
      rw [ev_sub] at h2
      have h3 := hf f List.mem_cons_self
      omega
    | false =>
      rw [h1] at hb
      exact ih (fun q hq => hf q (List.mem_cons_of_mem _ hq)) hb
theorem le0_ok {ρ : Nat → Int} {tab : Tb} (h : tOk ρ tab) {e : Ln} {fs : List Ln} (hf : fOk ρ fs) (hb : le0 tab fs e = true) : ev ρ e ≤ 0 := by
  rw [le0_def] at hb
  cases h1 : ub0 tab e with
  | true => exact ub0_ok h h1
  | false => rw [h1] at hb; exact anyF_ok h hf hb
theorem tOk_cons {ρ : Nat → Int} {tab : Tb} (h : tOk ρ tab) {s : Nat} {lo hi : Int} (h1 : lo ≤ ρ s) (h2 : ρ s ≤ hi) : tOk ρ (tbIns s lo hi tab) := by
  refine ⟨fun q hq => ?_, h.2⟩
  rcases List.mem_cons.mp hq with rfl | hq
  · exact ⟨h1, h2⟩
  · exact h.1 q hq
/-- bounds of the symbols of e, out of 'e ≤ 0' -/
noncomputable def propT (e : Ln) : List (Nat × Int) → Tb → Tb :=
  fun e_0 e_1 => List.rec (motive := fun _ => Tb → Tb) (fun e_1 => e_1) (fun h_0 t_0 ih e_1 => (Prod.rec (motive := fun _ => Tb) (fun s_128 k_129 => (Option.rec (motive := fun _ => Tb) (ih e_1) (fun x_130 => (Prod.rec (motive := fun _ => Tb) (fun lo_131 hi_132 => (Bool.rec (motive := fun _ => Tb) (Bool.rec (motive := fun _ => Tb) (ih e_1) (Option.rec (motive := fun _ => Tb) (ih e_1) (fun m_133 => (Bool.rec (motive := fun _ => Tb) (ih (tbIns s_128 m_133 hi_132 e_1)) (ih e_1) (leI m_133 lo_131))) (lb e_1 (addL e (sL s_128)))) (eqI k_129 (.negSucc (nat_lit 0)))) (Option.rec (motive := fun _ => Tb) (ih e_1) (fun m_134 => (Bool.rec (motive := fun _ => Tb) (ih (tbIns s_128 lo_131 (iNegQ m_134) e_1)) (ih e_1) (leI hi_132 (iNegQ m_134)))) (lb e_1 (subL e (sL s_128)))) (eqI k_129 (.ofNat (nat_lit 1))))) x_130)) (tbLk s_128 e_1))) h_0)) e_0 e_1
theorem propT_def (e : Ln) (e_0 : List (Nat × Int)) (e_1 : Tb) : propT e e_0 e_1 = (match e_0, e_1 with
  | [], tab => tab
  | (s, k) :: r, tab => match tbLk s tab with
    | some (lo, hi) => bif eqI k 1 then (match lb tab (subL e (sL s)) with
      | some m => bif leI hi (Int.neg m) then propT e r tab else propT e r (tbIns s lo (Int.neg m) tab)
      | none => propT e r tab) else bif eqI k (.negSucc 0) then (match lb tab (addL e (sL s)) with
      | some m => bif leI m lo then propT e r tab else propT e r (tbIns s m hi tab)
      | none => propT e r tab) else propT e r tab
    | none => propT e r tab) := by
  cases e_0 with
  | nil =>
    show e_1 = _
    try simp only [iAddQ_eq, iMulQ_eq, iNegQ_eq, lenQ_eq, nthQ_eq, setQ_eq, appQ_eq, mapQ_eq, allQ_eq, anyQ_eq, dropQ_eq, takeQ_eq, revQ_eq, getDQ_eq, optLQ_eq, brecC]
    all_goals rfl
  | cons h_0 t_0 =>
    show (Prod.rec (motive := fun _ => Tb) (fun s_135 k_136 => (Option.rec (motive := fun _ => Tb) (propT e t_0 e_1) (fun x_137 => (Prod.rec (motive := fun _ => Tb) (fun lo_138 hi_139 => (Bool.rec (motive := fun _ => Tb) (Bool.rec (motive := fun _ => Tb) (propT e t_0 e_1) (Option.rec (motive := fun _ => Tb) (propT e t_0 e_1) (fun m_140 => (Bool.rec (motive := fun _ => Tb) (propT e t_0 (tbIns s_135 m_140 hi_139 e_1)) (propT e t_0 e_1) (leI m_140 lo_138))) (lb e_1 (addL e (sL s_135)))) (eqI k_136 (.negSucc (nat_lit 0)))) (Option.rec (motive := fun _ => Tb) (propT e t_0 e_1) (fun m_141 => (Bool.rec (motive := fun _ => Tb) (propT e t_0 (tbIns s_135 lo_138 (iNegQ m_141) e_1)) (propT e t_0 e_1) (leI hi_139 (iNegQ m_141)))) (lb e_1 (subL e (sL s_135)))) (eqI k_136 (.ofNat (nat_lit 1))))) x_137)) (tbLk s_135 e_1))) h_0) = _
    try simp only [iAddQ_eq, iMulQ_eq, iNegQ_eq, lenQ_eq, nthQ_eq, setQ_eq, appQ_eq, mapQ_eq, allQ_eq, anyQ_eq, dropQ_eq, takeQ_eq, revQ_eq, getDQ_eq, optLQ_eq, brecC]
    all_goals
      cases h_0 with
      | mk y_142 y_143 =>
        try dsimp only [cond_false, cond_true]
        all_goals
          cases hq_2 : (tbLk y_142 e_1) with
          | none =>
            try dsimp only [cond_false, cond_true]
            all_goals rfl
          | some y_144 =>
            try dsimp only [cond_false, cond_true]
            all_goals
              cases y_144 with
              | mk y_145 y_146 =>
                try dsimp only [cond_false, cond_true]
                all_goals
                  cases hq_4 : (eqI y_143 1) with
                  | false =>
                    try dsimp only [cond_false, cond_true]
                    all_goals
                      cases hq_5 : (eqI y_143 ((.negSucc 0))) with
                      | false =>
                        try dsimp only [cond_false, cond_true]
                        all_goals rfl
                      | true =>
                        try dsimp only [cond_false, cond_true]
                        all_goals
                          cases hq_6 : (lb e_1 ((addL e ((sL y_142))))) with
                          | none =>
                            try dsimp only [cond_false, cond_true]
                            all_goals rfl
                          | some y_147 =>
                            try dsimp only [cond_false, cond_true]
                            all_goals
                              cases hq_7 : (leI y_147 y_145) with
                              | false =>
                                try dsimp only [cond_false, cond_true]
                                all_goals rfl
                              | true =>
                                try dsimp only [cond_false, cond_true]
                                all_goals rfl
                  | true =>
                    try dsimp only [cond_false, cond_true]
                    all_goals
                      cases hq_8 : (lb e_1 ((subL e ((sL y_142))))) with
                      | none =>
                        try dsimp only [cond_false, cond_true]
                        all_goals rfl
                      | some y_148 =>
                        try dsimp only [cond_false, cond_true]
                        all_goals
                          cases hq_9 : (leI y_146 ((Int.neg y_148))) with
                          | false =>
                            try dsimp only [cond_false, cond_true]
                            all_goals rfl
                          | true =>
                            try dsimp only [cond_false, cond_true]
                            all_goals rfl
theorem propT_ok {ρ : Nat → Int} {e : Ln} (he : ev ρ e ≤ 0) : ∀ (l : List (Nat × Int)) (tab : Tb), tOk ρ tab → tOk ρ (propT e l tab) := by
  intro l
  induction l with
  | nil => intro tab h; exact h
  | cons q r ih =>
    obtain ⟨s, k⟩ := q
    intro tab h
    rw [propT_def]
    try dsimp only
    split
    · rename_i lo hi hs
      have h3 := tbLk_ok h hs
      try dsimp only at h3
      cases h5 : eqI k 1 with
      | true =>
        rw [cond_true]
        split
        · rename_i m hm
          have h6 := lb_ok h hm
          rw [ev_sub, ev_s] at h6
          cases h7 : leI hi (Int.neg m) with
          | true => exact ih tab h
          | false => exact ih _ (tOk_cons h h3.1 (by show ρ s ≤ -m; omega))
        · exact ih tab h
      | false =>
        rw [cond_false]
        cases h6 : eqI k (.negSucc 0) with
        | true =>
          rw [cond_true]
          split
          · rename_i m hm
            have h6 := lb_ok h hm
            rw [ev_add, ev_s] at h6
            cases h7 : leI m lo with
            | true => exact ih tab h
            | false => exact ih _ (tOk_cons h (by omega) h3.2)
          · exact ih tab h
        | false => exact ih tab h
    · exact ih tab h
/-- one fact more; none: it can't hold -/
noncomputable def addLe (tab : Tb) (fs : List Ln) (e : Ln) : Option (Tb × List Ln) :=
  (Bool.rec (motive := fun _ => Option (Tb × List Ln)) (List.rec (motive := fun _ => Option (Tb × List Ln)) (some (tab, fs)) (fun x_149 x_150 _ => (Prod.rec (motive := fun _ => Option (Tb × List Ln)) (fun s_151 k_152 => (List.rec (motive := fun _ => Option (Tb × List Ln)) (Option.rec (motive := fun _ => Option (Tb × List Ln)) (some (tab, (e :: fs))) (fun x_155 => (Prod.rec (motive := fun _ => Option (Tb × List Ln)) (fun lo_156 hi_157 => (Bool.rec (motive := fun _ => Option (Tb × List Ln)) (Bool.rec (motive := fun _ => Option (Tb × List Ln)) (some (tab, (e :: fs))) (some ((Bool.rec (motive := fun _ => _) (tbIns s_151 e.1 hi_157 tab) tab (leI e.1 lo_156)), fs)) (eqI k_152 (.negSucc (nat_lit 0)))) (some ((Bool.rec (motive := fun _ => _) (tbIns s_151 lo_156 (iNegQ e.1) tab) tab (leI hi_157 (iNegQ e.1))), fs)) (eqI k_152 (.ofNat (nat_lit 1))))) x_155)) (tbLk s_151 tab)) (fun x_153 x_154 _ => (Bool.rec (motive := fun _ => Option (Tb × List Ln)) (some ((propT e e.2 tab), (e :: fs))) (some (tab, fs)) (ub0 tab e))) x_150)) x_149)) e.2) none (le0 tab fs (pluL (sclL (.negSucc (nat_lit 0)) e) (.ofNat (nat_lit 1)))))
theorem addLe_def (tab : Tb) (fs : List Ln) (e : Ln) : addLe tab fs e = (bif le0 tab fs (pluL (sclL (.negSucc 0) e) 1) then none else match e.2 with
  | [] => some (tab, fs)
  | [(s, k)] => (match tbLk s tab with
    | some (lo, hi) => bif eqI k 1 then some (bif leI hi (Int.neg e.1) then tab else tbIns s lo (Int.neg e.1) tab, fs) else bif eqI k (.negSucc 0) then some (bif leI e.1 lo then tab else tbIns s e.1 hi tab, fs) else some (tab, e :: fs)
    | none => some (tab, e :: fs))
  | _ => bif ub0 tab e then some (tab, fs) else some (propT e e.2 tab, e :: fs)) := by
  show (Bool.rec (motive := fun _ => Option (Tb × List Ln)) (List.rec (motive := fun _ => Option (Tb × List Ln)) (some (tab, fs)) (fun x_149 x_150 _ => (Prod.rec (motive := fun _ => Option (Tb × List Ln)) (fun s_151 k_152 => (List.rec (motive := fun _ => Option (Tb × List Ln)) (Option.rec (motive := fun _ => Option (Tb × List Ln)) (some (tab, (e :: fs))) (fun x_155 => (Prod.rec (motive := fun _ => Option (Tb × List Ln)) (fun lo_156 hi_157 => (Bool.rec (motive := fun _ => Option (Tb × List Ln)) (Bool.rec (motive := fun _ => Option (Tb × List Ln)) (some (tab, (e :: fs))) (some ((Bool.rec (motive := fun _ => _) (tbIns s_151 e.1 hi_157 tab) tab (leI e.1 lo_156)), fs)) (eqI k_152 (.negSucc (nat_lit 0)))) (some ((Bool.rec (motive := fun _ => _) (tbIns s_151 lo_156 (iNegQ e.1) tab) tab (leI hi_157 (iNegQ e.1))), fs)) (eqI k_152 (.ofNat (nat_lit 1))))) x_155)) (tbLk s_151 tab)) (fun x_153 x_154 _ => (Bool.rec (motive := fun _ => Option (Tb × List Ln)) (some ((propT e e.2 tab), (e :: fs))) (some (tab, fs)) (ub0 tab e))) x_150)) x_149)) e.2) none (le0 tab fs (pluL (sclL (.negSucc (nat_lit 0)) e) (.ofNat (nat_lit 1))))) = _
  try simp only [iAddQ_eq, iMulQ_eq, iNegQ_eq, lenQ_eq, nthQ_eq, setQ_eq, appQ_eq, mapQ_eq, allQ_eq, anyQ_eq, dropQ_eq, takeQ_eq, revQ_eq, getDQ_eq, optLQ_eq, brecC]
  all_goals
    cases hq_1 : (le0 tab fs ((pluL ((sclL ((.negSucc 0)) e)) 1))) with
    | false =>
      try dsimp only [cond_false, cond_true]
      all_goals
        cases hq_2 : e.2 with
        | nil =>
          try dsimp only [cond_false, cond_true]
          all_goals rfl
        | cons y_158 y_159 =>
          try dsimp only [cond_false, cond_true]
          all_goals
            cases y_158 with
            | mk y_160 y_161 =>
              try dsimp only [cond_false, cond_true]
              all_goals
                cases y_159 with
                | nil =>
                  try dsimp only [cond_false, cond_true]
                  all_goals
                    cases hq_5 : (tbLk y_160 tab) with
                    | none =>
                      try dsimp only [cond_false, cond_true]
                      all_goals rfl
                    | some y_162 =>
                      try dsimp only [cond_false, cond_true]
                      all_goals
                        cases y_162 with
                        | mk y_163 y_164 =>
                          try dsimp only [cond_false, cond_true]
                          all_goals
                            cases hq_7 : (eqI y_161 1) with
                            | false =>
                              try dsimp only [cond_false, cond_true]
                              all_goals
                                cases hq_8 : (eqI y_161 ((.negSucc 0))) with
                                | false =>
                                  try dsimp only [cond_false, cond_true]
                                  all_goals rfl
                                | true =>
                                  try dsimp only [cond_false, cond_true]
                                  all_goals rfl
                            | true =>
                              try dsimp only [cond_false, cond_true]
                              all_goals rfl
                | cons y_165 y_166 =>
                  try dsimp only [cond_false, cond_true]
                  all_goals
                    cases hq_9 : (ub0 tab e) with
                    | false =>
                      try dsimp only [cond_false, cond_true]
                      all_goals rfl
                    | true =>
                      try dsimp only [cond_false, cond_true]
                      all_goals rfl
    | true =>
      try dsimp only [cond_false, cond_true]
      all_goals rfl
theorem fOk_cons {ρ : Nat → Int} {fs : List Ln} (h : fOk ρ fs) {e : Ln} (h1 : ev ρ e ≤ 0) : fOk ρ (e :: fs) := fun q hq => by
  rcases List.mem_cons.mp hq with rfl | hq
  · exact h1
  · exact h q hq
theorem addLe_ok {ρ : Nat → Int} {tab : Tb} {fs : List Ln} (h : tOk ρ tab) (hf : fOk ρ fs) {e : Ln} (he : ev ρ e ≤ 0) : ∃ tab' fs', addLe tab fs e = some (tab', fs') ∧ tOk ρ tab' ∧ fOk ρ fs' := by
  rw [addLe_def]
  cases h1 : le0 tab fs (pluL (sclL (.negSucc 0) e) 1) with
  | true =>
    have h2 := le0_ok h hf h1
    rw [ev_plu, ev_scl] at h2
    have h3 : (Int.negSucc 0) * ev ρ e = - ev ρ e := by show (-1) * ev ρ e = _; omega
    omega
  | false =>
    obtain ⟨c, ts⟩ := e
    show ∃ tab' fs', (match ts with
      | [] => some (tab, fs)
      | [(s, k)] => (match tbLk s tab with
        | some (lo, hi) => bif eqI k 1 then some (bif leI hi (Int.neg c) then tab else tbIns s lo (Int.neg c) tab, fs) else bif eqI k (.negSucc 0) then some (bif leI c lo then tab else tbIns s c hi tab, fs) else some (tab, (c, ts) :: fs)
        | none => some (tab, (c, ts) :: fs))
      | _ => bif ub0 tab (c, ts) then some (tab, fs) else some (propT (c, ts) ts tab, (c, ts) :: fs)) = some (tab', fs') ∧ tOk ρ tab' ∧ fOk ρ fs'
    have hall : tOk ρ tab ∧ fOk ρ ((c, ts) :: fs) := ⟨h, fOk_cons hf he⟩
    split
    · exact ⟨_, _, rfl, h, hf⟩
    · rename_i s k
      cases h2 : tbLk s tab with
      | none => exact ⟨_, _, rfl, hall⟩
      | some b =>
        obtain ⟨lo, hi⟩ := b
        have h3 := tbLk_ok h h2
        have h4 : c + (k * ρ s + 0) ≤ 0 := he
        try dsimp only at h3 ⊢
        cases h5 : eqI k 1 with
        | true =>
          have := eqI_eq h5
          subst this
          refine ⟨_, _, rfl, ?_, hf⟩
          cases h6 : leI hi (Int.neg c) with
          | true => exact h
          | false => exact tOk_cons h h3.1 (by show ρ s ≤ -c; omega)
        | false =>
          cases h5' : eqI k (.negSucc 0) with
          | true =>
            have := eqI_eq h5'
            subst this
            have h7 : (Int.negSucc 0) * ρ s = - ρ s := by show (-1) * ρ s = _; omega
            refine ⟨_, _, rfl, ?_, hf⟩
            cases h6 : leI c lo with
            | true => exact h
            | false => exact tOk_cons h (by omega) h3.2
          | false => exact ⟨_, _, rfl, hall⟩
    · cases h2 : ub0 tab (c, ts) with
      | true => exact ⟨_, _, rfl, h, hf⟩
      | false => exact ⟨_, _, rfl, propT_ok he _ _ h, hall.2⟩
/-- equal for sure -/
noncomputable def eqT  : List (Nat × Int) → List (Nat × Int) → Bool :=
  fun e_0 e_1 => List.rec (motive := fun _ => List (Nat × Int) → Bool) (fun e_1 => (List.rec (motive := fun _ => Bool) true (fun x_167 x_168 _ => false) e_1)) (fun h_0 t_0 ih e_1 => (Prod.rec (motive := fun _ => Bool) (fun s_169 k_170 => (List.rec (motive := fun _ => Bool) false (fun x_171 q_172 _ => (Prod.rec (motive := fun _ => Bool) (fun t_173 m_174 => (Bool.rec (motive := fun _ => Bool) false (Bool.rec (motive := fun _ => Bool) false (ih q_172) (eqI k_170 m_174)) (Nat.beq s_169 t_173))) x_171)) e_1)) h_0)) e_0 e_1
theorem eqT_def  (e_0 : List (Nat × Int)) (e_1 : List (Nat × Int)) : eqT  e_0 e_1 = (match e_0, e_1 with
  | [], [] => true
  | (s, k) :: r, (t, m) :: q => bif Nat.beq s t then (bif eqI k m then eqT r q else false) else false
  | _, _ => false) := by
  cases e_0 with
  | nil =>
    show (List.rec (motive := fun _ => Bool) true (fun x_175 x_176 _ => false) e_1) = _
    try simp only [iAddQ_eq, iMulQ_eq, iNegQ_eq, lenQ_eq, nthQ_eq, setQ_eq, appQ_eq, mapQ_eq, allQ_eq, anyQ_eq, dropQ_eq, takeQ_eq, revQ_eq, getDQ_eq, optLQ_eq, brecC]
    all_goals
      cases e_1 with
      | nil =>
        try dsimp only [cond_false, cond_true]
        all_goals rfl
      | cons y_177 y_178 =>
        try dsimp only [cond_false, cond_true]
        all_goals rfl
  | cons h_0 t_0 =>
    show (Prod.rec (motive := fun _ => Bool) (fun s_179 k_180 => (List.rec (motive := fun _ => Bool) false (fun x_181 q_182 _ => (Prod.rec (motive := fun _ => Bool) (fun t_183 m_184 => (Bool.rec (motive := fun _ => Bool) false (Bool.rec (motive := fun _ => Bool) false (eqT t_0 q_182) (eqI k_180 m_184)) (Nat.beq s_179 t_183))) x_181)) e_1)) h_0) = _
    try simp only [iAddQ_eq, iMulQ_eq, iNegQ_eq, lenQ_eq, nthQ_eq, setQ_eq, appQ_eq, mapQ_eq, allQ_eq, anyQ_eq, dropQ_eq, takeQ_eq, revQ_eq, getDQ_eq, optLQ_eq, brecC]
    all_goals
      cases h_0 with
      | mk y_185 y_186 =>
        try dsimp only [cond_false, cond_true]
        all_goals
          cases e_1 with
          | nil =>
            try dsimp only [cond_false, cond_true]
            all_goals rfl
          | cons y_187 y_188 =>
            try dsimp only [cond_false, cond_true]
            all_goals
              cases y_187 with
              | mk y_189 y_190 =>
                try dsimp only [cond_false, cond_true]
                all_goals
                  cases hq_5 : (Nat.beq y_185 y_189) with
                  | false =>
                    try dsimp only [cond_false, cond_true]
                    all_goals rfl
                  | true =>
                    try dsimp only [cond_false, cond_true]
                    all_goals
                      cases hq_6 : (eqI y_186 y_190) with
                      | false =>
                        try dsimp only [cond_false, cond_true]
                        all_goals rfl
                      | true =>
                        try dsimp only [cond_false, cond_true]
                        all_goals rfl
theorem eqT_eq {a b : List (Nat × Int)} (h : eqT a b = true) : a = b := by
  induction a generalizing b with
  | nil => cases b with
    | nil => rfl
    | cons q r => cases h
  | cons p r ih => cases b with
    | nil => cases h
    | cons q r' =>
      obtain ⟨s, k⟩ := p
      obtain ⟨t, m⟩ := q
      rw [eqT_def] at h
      try dsimp only at h
      cases h1 : Nat.beq s t with
      | false => rw [h1] at h; cases h
      | true =>
        rw [h1] at h
        cases h2 : eqI k m with
        | false => rw [h2] at h; cases h
        | true =>
          rw [h2] at h
          rw [Nat.eq_of_beq_eq_true h1, eqI_eq h2, ih h]
noncomputable def eqL (tab : Tb) (fs : List Ln) (a b : Ln) : Bool :=
  (Bool.rec (motive := fun _ => Bool) (Bool.rec (motive := fun _ => Bool) false (le0 tab fs (subL b a)) (le0 tab fs (subL a b))) true (Bool.rec (motive := fun _ => Bool) false (eqT a.2 b.2) (eqI a.1 b.1)))
theorem eqL_def (tab : Tb) (fs : List Ln) (a b : Ln) : eqL tab fs a b = bif (bif eqI a.1 b.1 then eqT a.2 b.2 else false) then true else bif le0 tab fs (subL a b) then le0 tab fs (subL b a) else false := by
  show (Bool.rec (motive := fun _ => Bool) (Bool.rec (motive := fun _ => Bool) false (le0 tab fs (subL b a)) (le0 tab fs (subL a b))) true (Bool.rec (motive := fun _ => Bool) false (eqT a.2 b.2) (eqI a.1 b.1))) = _
  try simp only [iAddQ_eq, iMulQ_eq, iNegQ_eq, lenQ_eq, nthQ_eq, setQ_eq, appQ_eq, mapQ_eq, allQ_eq, anyQ_eq, dropQ_eq, takeQ_eq, revQ_eq, getDQ_eq, optLQ_eq, brecC]
  all_goals
    cases hq_1 : ((bif (eqI a.1 b.1) then (eqT a.2 b.2) else false)) with
    | false =>
      try dsimp only [cond_false, cond_true]
      all_goals
        cases hq_2 : (le0 tab fs ((subL a b))) with
        | false =>
          try dsimp only [cond_false, cond_true]
          all_goals rfl
        | true =>
          try dsimp only [cond_false, cond_true]
          all_goals rfl
    | true =>
      try dsimp only [cond_false, cond_true]
      all_goals rfl
theorem eqL_ok {ρ : Nat → Int} {tab : Tb} {fs : List Ln} (h : tOk ρ tab) (hf : fOk ρ fs) {a b : Ln} (he : eqL tab fs a b = true) : ev ρ a = ev ρ b := by
  rw [eqL_def] at he
  cases h1 : (bif eqI a.1 b.1 then eqT a.2 b.2 else false) with
  | true =>
    cases h2 : eqI a.1 b.1 with
    | false => rw [h2] at h1; cases h1
    | true =>
      rw [h2] at h1
      obtain ⟨a1, a2⟩ := a
      obtain ⟨b1, b2⟩ := b
      have e1 : a1 = b1 := eqI_eq h2
      have e2 : a2 = b2 := eqT_eq h1
      rw [e1, e2]
  | false =>
    rw [h1] at he
    cases h2 : le0 tab fs (subL a b) with
    | false => rw [h2] at he; cases he
    | true =>
      rw [h2] at he
      have h3 := le0_ok h hf h2
      have h4 := le0_ok h hf he
      rw [ev_sub] at h3 h4
      omega
/-- the symbols replaced -/
abbrev Th : Type := Nat → Ln
noncomputable def subT (θ : Th) : List (Nat × Int) → Ln → Ln :=
  fun e_0 e_1 => List.rec (motive := fun _ => Ln → Ln) (fun e_1 => e_1) (fun h_0 t_0 ih e_1 => (Prod.rec (motive := fun _ => Ln) (fun s_191 k_192 => (ih (addL e_1 (sclL k_192 (θ s_191))))) h_0)) e_0 e_1
theorem subT_def (θ : Th) (e_0 : List (Nat × Int)) (e_1 : Ln) : subT θ e_0 e_1 = (match e_0, e_1 with
  | [], acc => acc
  | (s, k) :: r, acc => subT θ r (addL acc (sclL k (θ s)))) := by
  cases e_0 with
  | nil =>
    show e_1 = _
    try simp only [iAddQ_eq, iMulQ_eq, iNegQ_eq, lenQ_eq, nthQ_eq, setQ_eq, appQ_eq, mapQ_eq, allQ_eq, anyQ_eq, dropQ_eq, takeQ_eq, revQ_eq, getDQ_eq, optLQ_eq, brecC]
    all_goals rfl
  | cons h_0 t_0 =>
    show (Prod.rec (motive := fun _ => Ln) (fun s_193 k_194 => (subT θ t_0 (addL e_1 (sclL k_194 (θ s_193))))) h_0) = _
    try simp only [iAddQ_eq, iMulQ_eq, iNegQ_eq, lenQ_eq, nthQ_eq, setQ_eq, appQ_eq, mapQ_eq, allQ_eq, anyQ_eq, dropQ_eq, takeQ_eq, revQ_eq, getDQ_eq, optLQ_eq, brecC]
    all_goals
      cases h_0 with
      | mk y_195 y_196 =>
        try dsimp only [cond_false, cond_true]
        all_goals rfl
noncomputable def sbL (θ : Th) (e : Ln) : Ln :=
  (List.rec (motive := fun _ => Ln) (subT θ e.2 (kL e.1)) (fun x_197 x_198 _ => (Prod.rec (motive := fun _ => Ln) (fun s_199 k_200 => (List.rec (motive := fun _ => Ln) (Bool.rec (motive := fun _ => Ln) (subT θ e.2 (kL e.1)) (θ s_199) (Bool.rec (motive := fun _ => Bool) false (eqI k_200 (.ofNat (nat_lit 1))) (isZ e.1))) (fun x_201 x_202 _ => (subT θ e.2 (kL e.1))) x_198)) x_197)) e.2)
theorem sbL_def (θ : Th) (e : Ln) : sbL θ e = (match e.2 with
  | [(s, k)] => bif (bif isZ e.1 then eqI k 1 else false) then θ s else subT θ e.2 (kL e.1)
  | _ => subT θ e.2 (kL e.1)) := by
  show (List.rec (motive := fun _ => Ln) (subT θ e.2 (kL e.1)) (fun x_197 x_198 _ => (Prod.rec (motive := fun _ => Ln) (fun s_199 k_200 => (List.rec (motive := fun _ => Ln) (Bool.rec (motive := fun _ => Ln) (subT θ e.2 (kL e.1)) (θ s_199) (Bool.rec (motive := fun _ => Bool) false (eqI k_200 (.ofNat (nat_lit 1))) (isZ e.1))) (fun x_201 x_202 _ => (subT θ e.2 (kL e.1))) x_198)) x_197)) e.2) = _
  try simp only [iAddQ_eq, iMulQ_eq, iNegQ_eq, lenQ_eq, nthQ_eq, setQ_eq, appQ_eq, mapQ_eq, allQ_eq, anyQ_eq, dropQ_eq, takeQ_eq, revQ_eq, getDQ_eq, optLQ_eq, brecC]
  all_goals
    cases hq_1 : e.2 with
    | nil =>
      try dsimp only [cond_false, cond_true]
      all_goals rfl
    | cons y_203 y_204 =>
      try dsimp only [cond_false, cond_true]
      all_goals
        cases y_203 with
        | mk y_205 y_206 =>
          try dsimp only [cond_false, cond_true]
          all_goals
            cases y_204 with
            | nil =>
              try dsimp only [cond_false, cond_true]
              all_goals
                cases hq_4 : ((bif (isZ e.1) then (eqI y_206 1) else false)) with
                | false =>
                  try dsimp only [cond_false, cond_true]
                  all_goals rfl
                | true =>
                  try dsimp only [cond_false, cond_true]
                  all_goals rfl
            | cons y_207 y_208 =>
              try dsimp only [cond_false, cond_true]
              all_goals rfl
theorem ev_subT (ρ : Nat → Int) (θ : Th) (l : List (Nat × Int)) (acc : Ln) : ev ρ (subT θ l acc) = ev ρ acc + evT (fun s => ev ρ (θ s)) l := by
  induction l generalizing acc with
  | nil => show ev ρ acc = ev ρ acc + 0; omega
  | cons q r ih =>
    obtain ⟨s, k⟩ := q
    show ev ρ (subT θ r (addL acc (sclL k (θ s)))) = ev ρ acc + (k * ev ρ (θ s) + evT _ r)
    rw [ih, ev_add, ev_scl]
    omega
theorem ev_sb (ρ : Nat → Int) (θ : Th) (e : Ln) : ev ρ (sbL θ e) = ev (fun s => ev ρ (θ s)) e := by
  have key : ev ρ (subT θ e.2 (kL e.1)) = ev (fun s => ev ρ (θ s)) e := by
    rw [ev_subT, ev_k]
    rfl
  obtain ⟨c, ts⟩ := e
  rw [sbL_def]
  split
  · rename_i s k hts
    try dsimp only at hts ⊢
    subst hts
    cases h1 : isZ c with
    | false => exact key
    | true =>
      cases h2 : eqI k 1 with
      | false => exact key
      | true =>
        have e1 := isZ_eq h1
        have e2 := eqI_eq h2
        subst e1
        subst e2
        show ev ρ (θ s) = 0 + (1 * ev ρ (θ s) + 0)
        omega
  · exact key
-- which symbols an expression speaks of
noncomputable def scT (n : Nat) : List (Nat × Int) → Bool :=
  fun e_0 => List.rec (motive := fun _ => Bool) true (fun h_0 t_0 ih => (Prod.rec (motive := fun _ => Bool) (fun s_209 x_210 => (Bool.rec (motive := fun _ => Bool) false (ih) (Nat.blt s_209 n))) h_0)) e_0 
theorem scT_def (n : Nat) (e_0 : List (Nat × Int)) : scT n e_0 = (match e_0 with
  | [] => true
  | (s, _) :: r => bif Nat.blt s n then scT n r else false) := by
  cases e_0 with
  | nil =>
    show true = _
    try simp only [iAddQ_eq, iMulQ_eq, iNegQ_eq, lenQ_eq, nthQ_eq, setQ_eq, appQ_eq, mapQ_eq, allQ_eq, anyQ_eq, dropQ_eq, takeQ_eq, revQ_eq, getDQ_eq, optLQ_eq, brecC]
    all_goals rfl
  | cons h_0 t_0 =>
    show (Prod.rec (motive := fun _ => Bool) (fun s_211 x_212 => (Bool.rec (motive := fun _ => Bool) false (scT n t_0) (Nat.blt s_211 n))) h_0) = _
    try simp only [iAddQ_eq, iMulQ_eq, iNegQ_eq, lenQ_eq, nthQ_eq, setQ_eq, appQ_eq, mapQ_eq, allQ_eq, anyQ_eq, dropQ_eq, takeQ_eq, revQ_eq, getDQ_eq, optLQ_eq, brecC]
    all_goals
      cases h_0 with
      | mk y_213 y_214 =>
        try dsimp only [cond_false, cond_true]
        all_goals
          cases hq_2 : (Nat.blt y_213 n) with
          | false =>
            try dsimp only [cond_false, cond_true]
            all_goals rfl
          | true =>
            try dsimp only [cond_false, cond_true]
            all_goals rfl
noncomputable def agr2 (n : Nat) (ρ ρ' : Nat → Int) : Prop := ∀ i, i < n → ρ' i = ρ i
theorem scT_ev {n : Nat} {ρ ρ' : Nat → Int} (ha : agr2 n ρ ρ') {l : List (Nat × Int)} (h : scT n l = true) : evT ρ' l = evT ρ l := by
  induction l with
  | nil => rfl
  | cons q r ih =>
    obtain ⟨s, k⟩ := q
    rw [scT_def] at h
    try dsimp only at h
    cases h1 : Nat.blt s n with
    | false => rw [h1] at h; cases h
    | true =>
      rw [h1] at h
      have h2 : s < n := Nat.le_of_ble_eq_true h1
      show k * ρ' s + evT ρ' r = k * ρ s + evT ρ r
      rw [ha s h2, ih h]
noncomputable def scL (n : Nat) (e : Ln) : Bool :=
  (scT n e.2)
theorem scL_def (n : Nat) (e : Ln) : scL n e = scT n e.2 := by
  show (scT n e.2) = _
  all_goals rfl
theorem scL_ev {n : Nat} {ρ ρ' : Nat → Int} (ha : agr2 n ρ ρ') {e : Ln} (h : scL n e = true) : ev ρ' e = ev ρ e := by
  show e.1 + evT ρ' e.2 = e.1 + evT ρ e.2
  rw [scT_ev ha h]
