/-! ===== patterns: what is known at a place, in symbols of its own ===== -/
abbrev Pt : Type := Nat × TbL × List Ln × List AV × AH × List PD
noncomputable def PtOk (PP : Nat → List (List Int32) → List Int → Prop) (ρ : Nat → Int) (P : Pt) (vs : List Value) (σ : SH) : Prop :=
  tOkL ρ P.2.1 ∧ fOk ρ P.2.2.1 ∧ rel2 (vrel ρ) vs P.2.2.2.1 ∧ rel2 (crel ρ) σ P.2.2.2.2.1 ∧ prOk PP ρ σ P.2.2.2.2.2
-- the symbols' meaning, found by looking (what is found is checked below)
abbrev Un : Type := Nat × List (Nat × Ln)
noncomputable def un0 : Un := (0, [])
noncomputable def thHas (s : Nat) (θ : Un) : Bool :=
  (Nat.beq (Nat.land (Nat.shiftRight θ.1 s) (nat_lit 1)) (nat_lit 1))
theorem thHas_def (s : Nat) (θ : Un) : thHas s θ = Nat.beq (Nat.land (Nat.shiftRight θ.1 s) 1) 1 := by
  show (Nat.beq (Nat.land (Nat.shiftRight θ.1 s) (nat_lit 1)) (nat_lit 1)) = _
  all_goals rfl
noncomputable def insU (s : Nat) (e : Ln) : List (Nat × Ln) → List (Nat × Ln) :=
  fun e_0 => List.rec (motive := fun _ => List (Nat × Ln)) [(s, e)] (fun h_0 t_0 ih => (Prod.rec (motive := fun _ => List (Nat × Ln)) (fun t_577 x_578 => (Bool.rec (motive := fun _ => List (Nat × Ln)) ((t_577, x_578) :: (ih)) ((s, e) :: ((t_577, x_578) :: t_0)) (Nat.ble t_577 s))) h_0)) e_0 
theorem insU_def (s : Nat) (e : Ln) (e_0 : List (Nat × Ln)) : insU s e e_0 = (match e_0 with
  | [] => [(s, e)]
  | (t, x) :: r => bif Nat.ble t s then (s, e) :: (t, x) :: r else (t, x) :: insU s e r) := by
  cases e_0 with
  | nil =>
    show [(s, e)] = _
    try simp only [iAddQ_eq, iMulQ_eq, iNegQ_eq, lenQ_eq, nthQ_eq, setQ_eq, appQ_eq, mapQ_eq, allQ_eq, anyQ_eq, dropQ_eq, takeQ_eq, revQ_eq, getDQ_eq, optLQ_eq, brecC]
    all_goals rfl
  | cons h_0 t_0 =>
    show (Prod.rec (motive := fun _ => List (Nat × Ln)) (fun t_579 x_580 => (Bool.rec (motive := fun _ => List (Nat × Ln)) ((t_579, x_580) :: (insU s e t_0)) ((s, e) :: ((t_579, x_580) :: t_0)) (Nat.ble t_579 s))) h_0) = _
    try simp only [iAddQ_eq, iMulQ_eq, iNegQ_eq, lenQ_eq, nthQ_eq, setQ_eq, appQ_eq, mapQ_eq, allQ_eq, anyQ_eq, dropQ_eq, takeQ_eq, revQ_eq, getDQ_eq, optLQ_eq, brecC]
    all_goals
      cases h_0 with
      | mk y_581 y_582 =>
        try dsimp only [cond_false, cond_true]
        all_goals
          cases hq_2 : (Nat.ble y_581 s) with
          | false =>
            try dsimp only [cond_false, cond_true]
            all_goals rfl
          | true =>
            try dsimp only [cond_false, cond_true]
            all_goals rfl
noncomputable def uniL (θ : Un) (p a : Ln) : Un :=
  (List.rec (motive := fun _ => Un) θ (fun x_583 x_584 _ => (Prod.rec (motive := fun _ => Un) (fun s_585 k_586 => (List.rec (motive := fun _ => Un) (Bool.rec (motive := fun _ => Un) (Bool.rec (motive := fun _ => Un) θ ((Nat.lor θ.1 (Nat.shiftLeft (nat_lit 1) s_585)), (insU s_585 (Bool.rec (motive := fun _ => _) (pluL a (iNegQ p.1)) a (isZ p.1)) θ.2)) (eqI k_586 (.ofNat (nat_lit 1)))) θ (thHas s_585 θ)) (fun x_587 x_588 _ => θ) x_584)) x_583)) p.2)
theorem uniL_def (θ : Un) (p a : Ln) : uniL θ p a = (match p.2 with
  | [(s, k)] => bif thHas s θ then θ else bif eqI k 1 then (Nat.lor θ.1 (Nat.shiftLeft 1 s), insU s (bif isZ p.1 then a else pluL a (Int.neg p.1)) θ.2) else θ
  | _ => θ) := by
  show (List.rec (motive := fun _ => Un) θ (fun x_583 x_584 _ => (Prod.rec (motive := fun _ => Un) (fun s_585 k_586 => (List.rec (motive := fun _ => Un) (Bool.rec (motive := fun _ => Un) (Bool.rec (motive := fun _ => Un) θ ((Nat.lor θ.1 (Nat.shiftLeft (nat_lit 1) s_585)), (insU s_585 (Bool.rec (motive := fun _ => _) (pluL a (iNegQ p.1)) a (isZ p.1)) θ.2)) (eqI k_586 (.ofNat (nat_lit 1)))) θ (thHas s_585 θ)) (fun x_587 x_588 _ => θ) x_584)) x_583)) p.2) = _
  try simp only [iAddQ_eq, iMulQ_eq, iNegQ_eq, lenQ_eq, nthQ_eq, setQ_eq, appQ_eq, mapQ_eq, allQ_eq, anyQ_eq, dropQ_eq, takeQ_eq, revQ_eq, getDQ_eq, optLQ_eq, brecC]
  all_goals
    cases hq_1 : p.2 with
    | nil =>
      try dsimp only [cond_false, cond_true]
      all_goals rfl
    | cons y_589 y_590 =>
      try dsimp only [cond_false, cond_true]
      all_goals
        cases y_589 with
        | mk y_591 y_592 =>
          try dsimp only [cond_false, cond_true]
          all_goals
            cases y_590 with
            | nil =>
              try dsimp only [cond_false, cond_true]
              all_goals
                cases hq_4 : (thHas y_591 θ) with
                | false =>
                  try dsimp only [cond_false, cond_true]
                  all_goals
                    cases hq_5 : (eqI y_592 1) with
                    | false =>
                      try dsimp only [cond_false, cond_true]
                      all_goals rfl
                    | true =>
                      try dsimp only [cond_false, cond_true]
                      all_goals rfl
                | true =>
                  try dsimp only [cond_false, cond_true]
                  all_goals rfl
            | cons y_593 y_594 =>
              try dsimp only [cond_false, cond_true]
              all_goals rfl
noncomputable def thLk (s : Nat) : List (Nat × Ln) → Ln :=
  fun e_0 => List.rec (motive := fun _ => Ln) (kL (.ofNat (nat_lit 0))) (fun h_0 t_0 ih => (Prod.rec (motive := fun _ => Ln) (fun t_595 e_596 => (Bool.rec (motive := fun _ => Ln) (ih) e_596 (Nat.beq s t_595))) h_0)) e_0 
theorem thLk_def (s : Nat) (e_0 : List (Nat × Ln)) : thLk s e_0 = (match e_0 with
  | [] => kL 0
  | (t, e) :: r => bif Nat.beq s t then e else thLk s r) := by
  cases e_0 with
  | nil =>
    show (kL (.ofNat (nat_lit 0))) = _
    try simp only [iAddQ_eq, iMulQ_eq, iNegQ_eq, lenQ_eq, nthQ_eq, setQ_eq, appQ_eq, mapQ_eq, allQ_eq, anyQ_eq, dropQ_eq, takeQ_eq, revQ_eq, getDQ_eq, optLQ_eq, brecC]
    all_goals rfl
  | cons h_0 t_0 =>
    show (Prod.rec (motive := fun _ => Ln) (fun t_597 e_598 => (Bool.rec (motive := fun _ => Ln) (thLk s t_0) e_598 (Nat.beq s t_597))) h_0) = _
    try simp only [iAddQ_eq, iMulQ_eq, iNegQ_eq, lenQ_eq, nthQ_eq, setQ_eq, appQ_eq, mapQ_eq, allQ_eq, anyQ_eq, dropQ_eq, takeQ_eq, revQ_eq, getDQ_eq, optLQ_eq, brecC]
    all_goals
      cases h_0 with
      | mk y_599 y_600 =>
        try dsimp only [cond_false, cond_true]
        all_goals
          cases hq_2 : (Nat.beq s y_599) with
          | false =>
            try dsimp only [cond_false, cond_true]
            all_goals rfl
          | true =>
            try dsimp only [cond_false, cond_true]
            all_goals rfl
/-- a list, the greatest first, as a function -/
noncomputable def balF  : Nat → List (Nat × Ln) → Nat × (Nat → Ln) × List (Nat × Ln) :=
  fun e_0 e_1 => Nat.rec (motive := fun _ => List (Nat × Ln) → Nat × (Nat → Ln) × List (Nat × Ln)) (fun e_1 => (List.rec (motive := fun _ => Nat × (Nat → Ln) × List (Nat × Ln)) ((nat_lit 0), (fun _ => (kL (.ofNat (nat_lit 0)))), []) (fun x_601 r_602 _ => (Prod.rec (motive := fun _ => Nat × (Nat → Ln) × List (Nat × Ln)) (fun s_603 e_604 => (s_603, (fun _ => e_604), r_602)) x_601)) e_1)) (fun t_0 ih e_1 => (Prod.rec (motive := fun _ => Nat × (Nat → Ln) × List (Nat × Ln)) (fun m_605 x_606 => (Prod.rec (motive := fun _ => Nat × (Nat → Ln) × List (Nat × Ln)) (fun f_607 x_608 => (List.rec (motive := fun _ => Nat × (Nat → Ln) × List (Nat × Ln)) (m_605, f_607, []) (fun q_609 r_610 _ => (Prod.rec (motive := fun _ => Nat × (Nat → Ln) × List (Nat × Ln)) (fun m2_611 x_612 => (Prod.rec (motive := fun _ => Nat × (Nat → Ln) × List (Nat × Ln)) (fun f2_613 r2_614 => (m2_611, (fun t => (Bool.rec (motive := fun _ => _) (f2_613 t) (f_607 t) (Nat.ble m_605 t))), r2_614)) x_612)) (ih (q_609 :: r_610)))) x_608)) x_606)) (ih e_1))) e_0 e_1
theorem balF_def  (e_0 : Nat) (e_1 : List (Nat × Ln)) : balF  e_0 e_1 = (match e_0, e_1 with
  | 0, [] => (0, fun _ => kL 0, [])
  | 0, (s, e) :: r => (s, fun _ => e, r)
  | n + 1, l => match balF n l with
    | (m, f, []) => (m, f, [])
    | (m, f, q :: r) => match balF n (q :: r) with
      | (m2, f2, r2) => (m2, fun t => bif Nat.ble m t then f t else f2 t, r2)) := by
  cases e_0 with
  | zero =>
    show (List.rec (motive := fun _ => Nat × (Nat → Ln) × List (Nat × Ln)) ((nat_lit 0), (fun _ => (kL (.ofNat (nat_lit 0)))), []) (fun x_615 r_616 _ => (Prod.rec (motive := fun _ => Nat × (Nat → Ln) × List (Nat × Ln)) (fun s_617 e_618 => (s_617, (fun _ => e_618), r_616)) x_615)) e_1) = _
    try simp only [iAddQ_eq, iMulQ_eq, iNegQ_eq, lenQ_eq, nthQ_eq, setQ_eq, appQ_eq, mapQ_eq, allQ_eq, anyQ_eq, dropQ_eq, takeQ_eq, revQ_eq, getDQ_eq, optLQ_eq, brecC]
    all_goals
      cases e_1 with
      | nil =>
        try dsimp only [cond_false, cond_true]
        all_goals rfl
      | cons y_619 y_620 =>
        try dsimp only [cond_false, cond_true]
        all_goals
          cases y_619 with
          | mk y_621 y_622 =>
            try dsimp only [cond_false, cond_true]
            all_goals rfl
  | succ t_0 =>
    show (Prod.rec (motive := fun _ => Nat × (Nat → Ln) × List (Nat × Ln)) (fun m_623 x_624 => (Prod.rec (motive := fun _ => Nat × (Nat → Ln) × List (Nat × Ln)) (fun f_625 x_626 => (List.rec (motive := fun _ => Nat × (Nat → Ln) × List (Nat × Ln)) (m_623, f_625, []) (fun q_627 r_628 _ => (Prod.rec (motive := fun _ => Nat × (Nat → Ln) × List (Nat × Ln)) (fun m2_629 x_630 => (Prod.rec (motive := fun _ => Nat × (Nat → Ln) × List (Nat × Ln)) (fun f2_631 r2_632 => (m2_629, (fun t => (Bool.rec (motive := fun _ => _) (f2_631 t) (f_625 t) (Nat.ble m_623 t))), r2_632)) x_630)) (balF t_0 (q_627 :: r_628)))) x_626)) x_624)) (balF t_0 e_1)) = _
    try simp only [iAddQ_eq, iMulQ_eq, iNegQ_eq, lenQ_eq, nthQ_eq, setQ_eq, appQ_eq, mapQ_eq, allQ_eq, anyQ_eq, dropQ_eq, takeQ_eq, revQ_eq, getDQ_eq, optLQ_eq, brecC]
    all_goals
      cases hq_3 : (balF t_0 e_1) with
      | mk y_633 y_634 =>
        try dsimp only [cond_false, cond_true]
        all_goals
          cases y_634 with
          | mk y_635 y_636 =>
            try dsimp only [cond_false, cond_true]
            all_goals
              cases y_636 with
              | nil =>
                try dsimp only [cond_false, cond_true]
                all_goals rfl
              | cons y_637 y_638 =>
                try dsimp only [cond_false, cond_true]
                all_goals
                  cases hq_6 : (balF t_0 ((y_637 :: y_638))) with
                  | mk y_639 y_640 =>
                    try dsimp only [cond_false, cond_true]
                    all_goals
                      cases y_640 with
                      | mk y_641 y_642 =>
                        try dsimp only [cond_false, cond_true]
                        all_goals rfl
noncomputable def withF (θ : Un) (k : Th → Bool) : Bool :=
  (Prod.rec (motive := fun _ => Bool) (fun x_643 x_644 => (Prod.rec (motive := fun _ => Bool) (fun f_645 x_646 => (k f_645)) x_644)) (balF (nat_lit 9) θ.2))
theorem withF_def (θ : Un) (k : Th → Bool) : withF θ k = (match balF 9 θ.2 with
  | (_, f, _) => k f) := by
  show (Prod.rec (motive := fun _ => Bool) (fun x_643 x_644 => (Prod.rec (motive := fun _ => Bool) (fun f_645 x_646 => (k f_645)) x_644)) (balF (nat_lit 9) θ.2)) = _
  all_goals
    cases hq_1 : (balF 9 θ.2) with
    | mk y_647 y_648 =>
      try dsimp only [cond_false, cond_true]
      all_goals
        cases y_648 with
        | mk y_649 y_650 =>
          try dsimp only [cond_false, cond_true]
          all_goals rfl
theorem withF_ok {θ : Un} {k : Th → Bool} (h : withF θ k = true) : ∃ f, k f = true := by
  rw [withF_def] at h
  split at h
  exact ⟨_, h⟩
noncomputable def uniV (θ : Un) (p a : AV) : Un :=
  (Sum.rec (motive := fun _ => Un) (fun x_651 => (Prod.rec (motive := fun _ => Un) (fun x_653 e_654 => (Sum.rec (motive := fun _ => Un) (fun x_655 => (Prod.rec (motive := fun _ => Un) (fun x_657 e_658 => (uniL θ e_654 e_658)) x_655)) (fun x_656 => θ) a)) x_651)) (fun x_652 => θ) p)
theorem uniV_def (θ : Un) (p a : AV) : uniV θ p a = (match p, a with
  | .inl (_, e), .inl (_, e') => uniL θ e e'
  | _, _ => θ) := by
  show (Sum.rec (motive := fun _ => Un) (fun x_651 => (Prod.rec (motive := fun _ => Un) (fun x_653 e_654 => (Sum.rec (motive := fun _ => Un) (fun x_655 => (Prod.rec (motive := fun _ => Un) (fun x_657 e_658 => (uniL θ e_654 e_658)) x_655)) (fun x_656 => θ) a)) x_651)) (fun x_652 => θ) p) = _
  all_goals
    cases p with
    | inl y_659 =>
      try dsimp only [cond_false, cond_true]
      all_goals
        cases y_659 with
        | mk y_660 y_661 =>
          try dsimp only [cond_false, cond_true]
          all_goals
            cases a with
            | inl y_662 =>
              try dsimp only [cond_false, cond_true]
              all_goals
                cases y_662 with
                | mk y_663 y_664 =>
                  try dsimp only [cond_false, cond_true]
                  all_goals rfl
            | inr y_665 =>
              try dsimp only [cond_false, cond_true]
              all_goals rfl
    | inr y_666 =>
      try dsimp only [cond_false, cond_true]
      all_goals rfl
noncomputable def uniVs  : Un → List AV → List AV → Un :=
  fun θ e_0 e_1 => List.rec (motive := fun _ => Un → List AV → Un) (fun θ e_1 => θ) (fun h_0 t_0 ih θ e_1 => (List.rec (motive := fun _ => Un) θ (fun a_667 q_668 _ => (ih (uniV θ h_0 a_667) q_668)) e_1)) e_0 θ e_1
theorem uniVs_def  (θ : Un) (e_0 : List AV) (e_1 : List AV) : uniVs  θ e_0 e_1 = (match e_0, e_1 with
  | p :: r, a :: q => uniVs (uniV θ p a) r q
  | _, _ => θ) := by
  cases e_0 with
  | nil =>
    show θ = _
    try simp only [iAddQ_eq, iMulQ_eq, iNegQ_eq, lenQ_eq, nthQ_eq, setQ_eq, appQ_eq, mapQ_eq, allQ_eq, anyQ_eq, dropQ_eq, takeQ_eq, revQ_eq, getDQ_eq, optLQ_eq, brecC]
    all_goals rfl
  | cons h_0 t_0 =>
    show (List.rec (motive := fun _ => Un) θ (fun a_669 q_670 _ => (uniVs (uniV θ h_0 a_669) t_0 q_670)) e_1) = _
    try simp only [iAddQ_eq, iMulQ_eq, iNegQ_eq, lenQ_eq, nthQ_eq, setQ_eq, appQ_eq, mapQ_eq, allQ_eq, anyQ_eq, dropQ_eq, takeQ_eq, revQ_eq, getDQ_eq, optLQ_eq, brecC]
    all_goals
      cases e_1 with
      | nil =>
        try dsimp only [cond_false, cond_true]
        all_goals rfl
      | cons y_671 y_672 =>
        try dsimp only [cond_false, cond_true]
        all_goals rfl
noncomputable def uniS  : Nat → Un → List Sg → List Sg → Un :=
  fun e_0 e_1 e_2 e_3 => Nat.rec (motive := fun _ => Un → List Sg → List Sg → Un) (fun e_1 e_2 e_3 => e_1) (fun t_0 ih e_1 e_2 e_3 => (List.rec (motive := fun _ => Un) e_1 (fun x_673 r_674 _ => (Sum.rec (motive := fun _ => Un) (fun e_675 => (List.rec (motive := fun _ => Un) e_1 (fun x_677 q_678 _ => (Sum.rec (motive := fun _ => Un) (fun e_679 => (ih (uniL e_1 e_675 e_679) r_674 q_678)) (fun x_680 => (Prod.rec (motive := fun _ => Un) (fun m_681 x_682 => (Prod.rec (motive := fun _ => Un) (fun lo_683 hi_684 => (Nat.rec (motive := fun _ => Un) (ih e_1 ((.inl e_675) :: r_674) q_678) (fun m_685 _ => (ih (Bool.rec (motive := fun _ => Un) e_1 (uniL e_1 e_675 (kL lo_683)) (eqI lo_683 hi_684)) r_674 ((.inr (m_685, lo_683, hi_684)) :: q_678))) m_681)) x_682)) x_680)) x_677)) e_3)) (fun x_676 => (Prod.rec (motive := fun _ => Un) (fun m_686 x_687 => (Prod.rec (motive := fun _ => Un) (fun lo_688 hi_689 => (List.rec (motive := fun _ => Un) e_1 (fun x_690 q_691 _ => (Sum.rec (motive := fun _ => Un) (fun e_692 => (Nat.rec (motive := fun _ => Un) (ih e_1 r_674 ((.inl e_692) :: q_691)) (fun m_694 _ => (ih e_1 ((.inr (m_694, lo_688, hi_689)) :: r_674) q_691)) m_686)) (fun x_693 => (Prod.rec (motive := fun _ => Un) (fun m_695 x_696 => (Prod.rec (motive := fun _ => Un) (fun lo_697 hi_698 => (Bool.rec (motive := fun _ => Un) (ih e_1 ((.inr ((Nat.sub m_686 m_695), lo_688, hi_689)) :: r_674) q_691) (Bool.rec (motive := fun _ => Un) (ih e_1 r_674 ((.inr ((Nat.sub m_695 m_686), lo_697, hi_698)) :: q_691)) (ih e_1 r_674 q_691) (Nat.beq m_686 m_695)) (Nat.ble m_686 m_695))) x_696)) x_693)) x_690)) e_3)) x_687)) x_676)) x_673)) e_2)) e_0 e_1 e_2 e_3
theorem uniS_def  (e_0 : Nat) (e_1 : Un) (e_2 : List Sg) (e_3 : List Sg) : uniS  e_0 e_1 e_2 e_3 = (match e_0, e_1, e_2, e_3 with
  | 0, θ, _, _ => θ
  | n + 1, θ, p, a => match p, a with
    | .inl e :: r, .inl e' :: q => uniS n (uniL θ e e') r q
    | .inl e :: r, .inr (m, lo, hi) :: q => match m with
      | 0 => uniS n θ (.inl e :: r) q
      | m + 1 => uniS n (bif eqI lo hi then uniL θ e (kL lo) else θ) r (.inr (m, lo, hi) :: q)
    | .inr (m, lo, hi) :: r, .inl e' :: q => match m with
      | 0 => uniS n θ r (.inl e' :: q)
      | m + 1 => uniS n θ (.inr (m, lo, hi) :: r) q
    | .inr (m, lo, hi) :: r, .inr (m', lo', hi') :: q => bif Nat.ble m m' then (bif Nat.beq m m' then uniS n θ r q else uniS n θ r (.inr (Nat.sub m' m, lo', hi') :: q)) else uniS n θ (.inr (Nat.sub m m', lo, hi) :: r) q
    | _, _ => θ) := by
  cases e_0 with
  | zero =>
    show e_1 = _
    try simp only [iAddQ_eq, iMulQ_eq, iNegQ_eq, lenQ_eq, nthQ_eq, setQ_eq, appQ_eq, mapQ_eq, allQ_eq, anyQ_eq, dropQ_eq, takeQ_eq, revQ_eq, getDQ_eq, optLQ_eq, brecC]
    all_goals rfl
  | succ t_0 =>
    show (List.rec (motive := fun _ => Un) e_1 (fun x_699 r_700 _ => (Sum.rec (motive := fun _ => Un) (fun e_701 => (List.rec (motive := fun _ => Un) e_1 (fun x_703 q_704 _ => (Sum.rec (motive := fun _ => Un) (fun e_705 => (uniS t_0 (uniL e_1 e_701 e_705) r_700 q_704)) (fun x_706 => (Prod.rec (motive := fun _ => Un) (fun m_707 x_708 => (Prod.rec (motive := fun _ => Un) (fun lo_709 hi_710 => (Nat.rec (motive := fun _ => Un) (uniS t_0 e_1 ((.inl e_701) :: r_700) q_704) (fun m_711 _ => (uniS t_0 (Bool.rec (motive := fun _ => Un) e_1 (uniL e_1 e_701 (kL lo_709)) (eqI lo_709 hi_710)) r_700 ((.inr (m_711, lo_709, hi_710)) :: q_704))) m_707)) x_708)) x_706)) x_703)) e_3)) (fun x_702 => (Prod.rec (motive := fun _ => Un) (fun m_712 x_713 => (Prod.rec (motive := fun _ => Un) (fun lo_714 hi_715 => (List.rec (motive := fun _ => Un) e_1 (fun x_716 q_717 _ => (Sum.rec (motive := fun _ => Un) (fun e_718 => (Nat.rec (motive := fun _ => Un) (uniS t_0 e_1 r_700 ((.inl e_718) :: q_717)) (fun m_720 _ => (uniS t_0 e_1 ((.inr (m_720, lo_714, hi_715)) :: r_700) q_717)) m_712)) (fun x_719 => (Prod.rec (motive := fun _ => Un) (fun m_721 x_722 => (Prod.rec (motive := fun _ => Un) (fun lo_723 hi_724 => (Bool.rec (motive := fun _ => Un) (uniS t_0 e_1 ((.inr ((Nat.sub m_712 m_721), lo_714, hi_715)) :: r_700) q_717) (Bool.rec (motive := fun _ => Un) (uniS t_0 e_1 r_700 ((.inr ((Nat.sub m_721 m_712), lo_723, hi_724)) :: q_717)) (uniS t_0 e_1 r_700 q_717) (Nat.beq m_712 m_721)) (Nat.ble m_712 m_721))) x_722)) x_719)) x_716)) e_3)) x_713)) x_702)) x_699)) e_2) = _
    try simp only [iAddQ_eq, iMulQ_eq, iNegQ_eq, lenQ_eq, nthQ_eq, setQ_eq, appQ_eq, mapQ_eq, allQ_eq, anyQ_eq, dropQ_eq, takeQ_eq, revQ_eq, getDQ_eq, optLQ_eq, brecC]
    all_goals
      cases e_2 with
      | nil =>
        try dsimp only [cond_false, cond_true]
        all_goals rfl
      | cons y_725 y_726 =>
        try dsimp only [cond_false, cond_true]
        all_goals
          cases y_725 with
          | inl y_727 =>
            try dsimp only [cond_false, cond_true]
            all_goals
              cases e_3 with
              | nil =>
                try dsimp only [cond_false, cond_true]
                all_goals rfl
              | cons y_728 y_729 =>
                try dsimp only [cond_false, cond_true]
                all_goals
                  cases y_728 with
                  | inl y_730 =>
                    try dsimp only [cond_false, cond_true]
                    all_goals rfl
                  | inr y_731 =>
                    try dsimp only [cond_false, cond_true]
                    all_goals
                      cases y_731 with
                      | mk y_732 y_733 =>
                        try dsimp only [cond_false, cond_true]
                        all_goals
                          cases y_733 with
                          | mk y_734 y_735 =>
                            try dsimp only [cond_false, cond_true]
                            all_goals
                              cases y_732 with
                              | zero =>
                                try dsimp only [cond_false, cond_true]
                                all_goals rfl
                              | succ y_736 =>
                                try dsimp only [cond_false, cond_true]
                                all_goals rfl
          | inr y_737 =>
            try dsimp only [cond_false, cond_true]
            all_goals
              cases y_737 with
              | mk y_738 y_739 =>
                try dsimp only [cond_false, cond_true]
                all_goals
                  cases y_739 with
                  | mk y_740 y_741 =>
                    try dsimp only [cond_false, cond_true]
                    all_goals
                      cases e_3 with
                      | nil =>
                        try dsimp only [cond_false, cond_true]
                        all_goals rfl
                      | cons y_742 y_743 =>
                        try dsimp only [cond_false, cond_true]
                        all_goals
                          cases y_742 with
                          | inl y_744 =>
                            try dsimp only [cond_false, cond_true]
                            all_goals
                              cases y_738 with
                              | zero =>
                                try dsimp only [cond_false, cond_true]
                                all_goals rfl
                              | succ y_745 =>
                                try dsimp only [cond_false, cond_true]
                                all_goals rfl
                          | inr y_746 =>
                            try dsimp only [cond_false, cond_true]
                            all_goals
                              cases y_746 with
                              | mk y_747 y_748 =>
                                try dsimp only [cond_false, cond_true]
                                all_goals
                                  cases y_748 with
                                  | mk y_749 y_750 =>
                                    try dsimp only [cond_false, cond_true]
                                    all_goals
                                      cases hq_15 : (Nat.ble y_738 y_747) with
                                      | false =>
                                        try dsimp only [cond_false, cond_true]
                                        all_goals rfl
                                      | true =>
                                        try dsimp only [cond_false, cond_true]
                                        all_goals
                                          cases hq_16 : (Nat.beq y_738 y_747) with
                                          | false =>
                                            try dsimp only [cond_false, cond_true]
                                            all_goals rfl
                                          | true =>
                                            try dsimp only [cond_false, cond_true]
                                            all_goals rfl
noncomputable def uniC (θ : Un) (p a : AC) : Un :=
  (Sum.rec (motive := fun _ => Un) (fun x_751 => (Prod.rec (motive := fun _ => Un) (fun x_753 l_754 => (Sum.rec (motive := fun _ => Un) (fun x_755 => (Prod.rec (motive := fun _ => Un) (fun x_757 l_758 => (uniVs θ l_754 l_758)) x_755)) (fun x_756 => θ) a)) x_751)) (fun x_752 => (Prod.rec (motive := fun _ => Un) (fun x_759 x_760 => (Sum.rec (motive := fun _ => Un) (fun s_761 => (Sum.rec (motive := fun _ => Un) (fun x_763 => θ) (fun x_764 => (Prod.rec (motive := fun _ => Un) (fun x_765 x_766 => (Sum.rec (motive := fun _ => Un) (fun s_767 => (uniS (nat_lit 600) θ s_761 s_767)) (fun x_768 => θ) x_766)) x_764)) a)) (fun x_762 => θ) x_760)) x_752)) p)
theorem uniC_def (θ : Un) (p a : AC) : uniC θ p a = (match p, a with
  | .inl (_, l), .inl (_, l') => uniVs θ l l'
  | .inr (_, .inl s), .inr (_, .inl s') => uniS 600 θ s s'
  | _, _ => θ) := by
  show (Sum.rec (motive := fun _ => Un) (fun x_751 => (Prod.rec (motive := fun _ => Un) (fun x_753 l_754 => (Sum.rec (motive := fun _ => Un) (fun x_755 => (Prod.rec (motive := fun _ => Un) (fun x_757 l_758 => (uniVs θ l_754 l_758)) x_755)) (fun x_756 => θ) a)) x_751)) (fun x_752 => (Prod.rec (motive := fun _ => Un) (fun x_759 x_760 => (Sum.rec (motive := fun _ => Un) (fun s_761 => (Sum.rec (motive := fun _ => Un) (fun x_763 => θ) (fun x_764 => (Prod.rec (motive := fun _ => Un) (fun x_765 x_766 => (Sum.rec (motive := fun _ => Un) (fun s_767 => (uniS (nat_lit 600) θ s_761 s_767)) (fun x_768 => θ) x_766)) x_764)) a)) (fun x_762 => θ) x_760)) x_752)) p) = _
  all_goals
    cases p with
    | inl y_769 =>
      try dsimp only [cond_false, cond_true]
      all_goals
        cases y_769 with
        | mk y_770 y_771 =>
          try dsimp only [cond_false, cond_true]
          all_goals
            cases a with
            | inl y_772 =>
              try dsimp only [cond_false, cond_true]
              all_goals
                cases y_772 with
                | mk y_773 y_774 =>
                  try dsimp only [cond_false, cond_true]
                  all_goals rfl
            | inr y_775 =>
              try dsimp only [cond_false, cond_true]
              all_goals rfl
    | inr y_776 =>
      try dsimp only [cond_false, cond_true]
      all_goals
        cases y_776 with
        | mk y_777 y_778 =>
          try dsimp only [cond_false, cond_true]
          all_goals
            cases y_778 with
            | inl y_779 =>
              try dsimp only [cond_false, cond_true]
              all_goals
                cases a with
                | inl y_780 =>
                  try dsimp only [cond_false, cond_true]
                  all_goals rfl
                | inr y_781 =>
                  try dsimp only [cond_false, cond_true]
                  all_goals
                    cases y_781 with
                    | mk y_782 y_783 =>
                      try dsimp only [cond_false, cond_true]
                      all_goals
                        cases y_783 with
                        | inl y_784 =>
                          try dsimp only [cond_false, cond_true]
                          all_goals rfl
                        | inr y_785 =>
                          try dsimp only [cond_false, cond_true]
                          all_goals rfl
            | inr y_786 =>
              try dsimp only [cond_false, cond_true]
              all_goals rfl
noncomputable def uniH  : Un → AH → AH → Un :=
  fun θ e_0 e_1 => List.rec (motive := fun _ => Un → AH → Un) (fun θ e_1 => θ) (fun h_0 t_0 ih θ e_1 => (List.rec (motive := fun _ => Un) θ (fun a_787 q_788 _ => (ih (uniC θ h_0 a_787) q_788)) e_1)) e_0 θ e_1
theorem uniH_def  (θ : Un) (e_0 : AH) (e_1 : AH) : uniH  θ e_0 e_1 = (match e_0, e_1 with
  | p :: r, a :: q => uniH (uniC θ p a) r q
  | _, _ => θ) := by
  cases e_0 with
  | nil =>
    show θ = _
    try simp only [iAddQ_eq, iMulQ_eq, iNegQ_eq, lenQ_eq, nthQ_eq, setQ_eq, appQ_eq, mapQ_eq, allQ_eq, anyQ_eq, dropQ_eq, takeQ_eq, revQ_eq, getDQ_eq, optLQ_eq, brecC]
    all_goals rfl
  | cons h_0 t_0 =>
    show (List.rec (motive := fun _ => Un) θ (fun a_789 q_790 _ => (uniH (uniC θ h_0 a_789) t_0 q_790)) e_1) = _
    try simp only [iAddQ_eq, iMulQ_eq, iNegQ_eq, lenQ_eq, nthQ_eq, setQ_eq, appQ_eq, mapQ_eq, allQ_eq, anyQ_eq, dropQ_eq, takeQ_eq, revQ_eq, getDQ_eq, optLQ_eq, brecC]
    all_goals
      cases e_1 with
      | nil =>
        try dsimp only [cond_false, cond_true]
        all_goals rfl
      | cons y_791 y_792 =>
        try dsimp only [cond_false, cond_true]
        all_goals rfl
noncomputable def okNum (tab : Tb) (fs : List Ln) (θ : Un) (p a : Ln) : Bool :=
  (List.rec (motive := fun _ => Bool) true (fun x_793 x_794 _ => (Prod.rec (motive := fun _ => Bool) (fun s_795 x_796 => (List.rec (motive := fun _ => Bool) (Bool.rec (motive := fun _ => Bool) true (eqL tab fs (sbL (fun s => (thLk s θ.2)) p) a) (thHas s_795 θ)) (fun x_797 x_798 _ => true) x_794)) x_793)) p.2)
theorem okNum_def (tab : Tb) (fs : List Ln) (θ : Un) (p a : Ln) : okNum tab fs θ p a = (match p.2 with
  | [(s, _)] => bif thHas s θ then eqL tab fs (sbL (fun s => thLk s θ.2) p) a else true
  | _ => true) := by
  show (List.rec (motive := fun _ => Bool) true (fun x_793 x_794 _ => (Prod.rec (motive := fun _ => Bool) (fun s_795 x_796 => (List.rec (motive := fun _ => Bool) (Bool.rec (motive := fun _ => Bool) true (eqL tab fs (sbL (fun s => (thLk s θ.2)) p) a) (thHas s_795 θ)) (fun x_797 x_798 _ => true) x_794)) x_793)) p.2) = _
  try simp only [iAddQ_eq, iMulQ_eq, iNegQ_eq, lenQ_eq, nthQ_eq, setQ_eq, appQ_eq, mapQ_eq, allQ_eq, anyQ_eq, dropQ_eq, takeQ_eq, revQ_eq, getDQ_eq, optLQ_eq, brecC]
  all_goals
    cases hq_1 : p.2 with
    | nil =>
      try dsimp only [cond_false, cond_true]
      all_goals rfl
    | cons y_799 y_800 =>
      try dsimp only [cond_false, cond_true]
      all_goals
        cases y_799 with
        | mk y_801 y_802 =>
          try dsimp only [cond_false, cond_true]
          all_goals
            cases y_800 with
            | nil =>
              try dsimp only [cond_false, cond_true]
              all_goals
                cases hq_4 : (thHas y_801 θ) with
                | false =>
                  try dsimp only [cond_false, cond_true]
                  all_goals rfl
                | true =>
                  try dsimp only [cond_false, cond_true]
                  all_goals rfl
            | cons y_803 y_804 =>
              try dsimp only [cond_false, cond_true]
              all_goals rfl
noncomputable def okNums (tab : Tb) (fs : List Ln) (θ : Un) : List Ln → List Ln → Bool :=
  fun e_0 e_1 => List.rec (motive := fun _ => List Ln → Bool) (fun e_1 => (List.rec (motive := fun _ => Bool) true (fun x_805 x_806 _ => false) e_1)) (fun h_0 t_0 ih e_1 => (List.rec (motive := fun _ => Bool) false (fun a_807 q_808 _ => (Bool.rec (motive := fun _ => Bool) false (ih q_808) (okNum tab fs θ h_0 a_807))) e_1)) e_0 e_1
theorem okNums_def (tab : Tb) (fs : List Ln) (θ : Un) (e_0 : List Ln) (e_1 : List Ln) : okNums tab fs θ e_0 e_1 = (match e_0, e_1 with
  | p :: r, a :: q => bif okNum tab fs θ p a then okNums tab fs θ r q else false
  | [], [] => true
  | _, _ => false) := by
  cases e_0 with
  | nil =>
    show (List.rec (motive := fun _ => Bool) true (fun x_809 x_810 _ => false) e_1) = _
    try simp only [iAddQ_eq, iMulQ_eq, iNegQ_eq, lenQ_eq, nthQ_eq, setQ_eq, appQ_eq, mapQ_eq, allQ_eq, anyQ_eq, dropQ_eq, takeQ_eq, revQ_eq, getDQ_eq, optLQ_eq, brecC]
    all_goals
      cases e_1 with
      | nil =>
        try dsimp only [cond_false, cond_true]
        all_goals rfl
      | cons y_811 y_812 =>
        try dsimp only [cond_false, cond_true]
        all_goals rfl
  | cons h_0 t_0 =>
    show (List.rec (motive := fun _ => Bool) false (fun a_813 q_814 _ => (Bool.rec (motive := fun _ => Bool) false (okNums tab fs θ t_0 q_814) (okNum tab fs θ h_0 a_813))) e_1) = _
    try simp only [iAddQ_eq, iMulQ_eq, iNegQ_eq, lenQ_eq, nthQ_eq, setQ_eq, appQ_eq, mapQ_eq, allQ_eq, anyQ_eq, dropQ_eq, takeQ_eq, revQ_eq, getDQ_eq, optLQ_eq, brecC]
    all_goals
      cases e_1 with
      | nil =>
        try dsimp only [cond_false, cond_true]
        all_goals rfl
      | cons y_815 y_816 =>
        try dsimp only [cond_false, cond_true]
        all_goals
          cases hq_3 : (okNum tab fs θ h_0 y_815) with
          | false =>
            try dsimp only [cond_false, cond_true]
            all_goals rfl
          | true =>
            try dsimp only [cond_false, cond_true]
            all_goals rfl
noncomputable def uniN  : Un → List Ln → List Ln → Un :=
  fun θ e_0 e_1 => List.rec (motive := fun _ => Un → List Ln → Un) (fun θ e_1 => θ) (fun h_0 t_0 ih θ e_1 => (List.rec (motive := fun _ => Un) θ (fun a_817 q_818 _ => (ih (uniL θ h_0 a_817) q_818)) e_1)) e_0 θ e_1
theorem uniN_def  (θ : Un) (e_0 : List Ln) (e_1 : List Ln) : uniN  θ e_0 e_1 = (match e_0, e_1 with
  | p :: r, a :: q => uniN (uniL θ p a) r q
  | _, _ => θ) := by
  cases e_0 with
  | nil =>
    show θ = _
    try simp only [iAddQ_eq, iMulQ_eq, iNegQ_eq, lenQ_eq, nthQ_eq, setQ_eq, appQ_eq, mapQ_eq, allQ_eq, anyQ_eq, dropQ_eq, takeQ_eq, revQ_eq, getDQ_eq, optLQ_eq, brecC]
    all_goals rfl
  | cons h_0 t_0 =>
    show (List.rec (motive := fun _ => Un) θ (fun a_819 q_820 _ => (uniN (uniL θ h_0 a_819) t_0 q_820)) e_1) = _
    try simp only [iAddQ_eq, iMulQ_eq, iNegQ_eq, lenQ_eq, nthQ_eq, setQ_eq, appQ_eq, mapQ_eq, allQ_eq, anyQ_eq, dropQ_eq, takeQ_eq, revQ_eq, getDQ_eq, optLQ_eq, brecC]
    all_goals
      cases e_1 with
      | nil =>
        try dsimp only [cond_false, cond_true]
        all_goals rfl
      | cons y_821 y_822 =>
        try dsimp only [cond_false, cond_true]
        all_goals rfl
-- checks
noncomputable def chkV (tab : Tb) (fs : List Ln) (θ : Th) (p a : AV) : Bool :=
  (Sum.rec (motive := fun _ => Bool) (fun x_823 => (Prod.rec (motive := fun _ => Bool) (fun b_825 e_826 => (Sum.rec (motive := fun _ => Bool) (fun x_827 => (Prod.rec (motive := fun _ => Bool) (fun b_829 e_830 => (Bool.rec (motive := fun _ => Bool) false (eqL tab fs (sbL θ e_826) e_830) (lnB b_825 b_829))) x_827)) (fun x_828 => false) a)) x_823)) (fun x_824 => (Sum.rec (motive := fun _ => Bool) (fun x_831 => (Option.rec (motive := fun _ => Bool) (Sum.rec (motive := fun _ => Bool) (fun x_834 => false) (fun x_835 => (Sum.rec (motive := fun _ => Bool) (fun x_836 => (Option.rec (motive := fun _ => Bool) true (fun x_838 => false) x_836)) (fun x_837 => false) x_835)) a) (fun i_833 => (Sum.rec (motive := fun _ => Bool) (fun x_839 => false) (fun x_840 => (Sum.rec (motive := fun _ => Bool) (fun x_841 => (Option.rec (motive := fun _ => Bool) false (fun j_843 => (Nat.beq i_833 j_843)) x_841)) (fun x_842 => false) x_840)) a)) x_831)) (fun x_832 => false) x_824)) p)
theorem chkV_def (tab : Tb) (fs : List Ln) (θ : Th) (p a : AV) : chkV tab fs θ p a = (match p, a with
  | .inl (b, e), .inl (b', e') => bif lnB b b' then eqL tab fs (sbL θ e) e' else false
  | .inr (.inl (some i)), .inr (.inl (some j)) => Nat.beq i j
  | .inr (.inl none), .inr (.inl none) => true
  | _, _ => false) := by
  show (Sum.rec (motive := fun _ => Bool) (fun x_823 => (Prod.rec (motive := fun _ => Bool) (fun b_825 e_826 => (Sum.rec (motive := fun _ => Bool) (fun x_827 => (Prod.rec (motive := fun _ => Bool) (fun b_829 e_830 => (Bool.rec (motive := fun _ => Bool) false (eqL tab fs (sbL θ e_826) e_830) (lnB b_825 b_829))) x_827)) (fun x_828 => false) a)) x_823)) (fun x_824 => (Sum.rec (motive := fun _ => Bool) (fun x_831 => (Option.rec (motive := fun _ => Bool) (Sum.rec (motive := fun _ => Bool) (fun x_834 => false) (fun x_835 => (Sum.rec (motive := fun _ => Bool) (fun x_836 => (Option.rec (motive := fun _ => Bool) true (fun x_838 => false) x_836)) (fun x_837 => false) x_835)) a) (fun i_833 => (Sum.rec (motive := fun _ => Bool) (fun x_839 => false) (fun x_840 => (Sum.rec (motive := fun _ => Bool) (fun x_841 => (Option.rec (motive := fun _ => Bool) false (fun j_843 => (Nat.beq i_833 j_843)) x_841)) (fun x_842 => false) x_840)) a)) x_831)) (fun x_832 => false) x_824)) p) = _
  try simp only [iAddQ_eq, iMulQ_eq, iNegQ_eq, lenQ_eq, nthQ_eq, setQ_eq, appQ_eq, mapQ_eq, allQ_eq, anyQ_eq, dropQ_eq, takeQ_eq, revQ_eq, getDQ_eq, optLQ_eq, brecC]
  all_goals
    cases p with
    | inl y_844 =>
      try dsimp only [cond_false, cond_true]
      all_goals
        cases y_844 with
        | mk y_845 y_846 =>
          try dsimp only [cond_false, cond_true]
          all_goals
            cases a with
            | inl y_847 =>
              try dsimp only [cond_false, cond_true]
              all_goals
                cases y_847 with
                | mk y_848 y_849 =>
                  try dsimp only [cond_false, cond_true]
                  all_goals
                    cases hq_5 : (lnB y_845 y_848) with
                    | false =>
                      try dsimp only [cond_false, cond_true]
                      all_goals rfl
                    | true =>
                      try dsimp only [cond_false, cond_true]
                      all_goals rfl
            | inr y_850 =>
              try dsimp only [cond_false, cond_true]
              all_goals rfl
    | inr y_851 =>
      try dsimp only [cond_false, cond_true]
      all_goals
        cases y_851 with
        | inl y_852 =>
          try dsimp only [cond_false, cond_true]
          all_goals
            cases y_852 with
            | none =>
              try dsimp only [cond_false, cond_true]
              all_goals
                cases a with
                | inl y_853 =>
                  try dsimp only [cond_false, cond_true]
                  all_goals rfl
                | inr y_854 =>
                  try dsimp only [cond_false, cond_true]
                  all_goals
                    cases y_854 with
                    | inl y_855 =>
                      try dsimp only [cond_false, cond_true]
                      all_goals
                        cases y_855 with
                        | none =>
                          try dsimp only [cond_false, cond_true]
                          all_goals rfl
                        | some y_856 =>
                          try dsimp only [cond_false, cond_true]
                          all_goals rfl
                    | inr y_857 =>
                      try dsimp only [cond_false, cond_true]
                      all_goals rfl
            | some y_858 =>
              try dsimp only [cond_false, cond_true]
              all_goals
                cases a with
                | inl y_859 =>
                  try dsimp only [cond_false, cond_true]
                  all_goals rfl
                | inr y_860 =>
                  try dsimp only [cond_false, cond_true]
                  all_goals
                    cases y_860 with
                    | inl y_861 =>
                      try dsimp only [cond_false, cond_true]
                      all_goals
                        cases y_861 with
                        | none =>
                          try dsimp only [cond_false, cond_true]
                          all_goals rfl
                        | some y_862 =>
                          try dsimp only [cond_false, cond_true]
                          all_goals rfl
                    | inr y_863 =>
                      try dsimp only [cond_false, cond_true]
                      all_goals rfl
        | inr y_864 =>
          try dsimp only [cond_false, cond_true]
          all_goals rfl
noncomputable def chkVs (tab : Tb) (fs : List Ln) (θ : Th) : List AV → List AV → Bool :=
  fun e_0 e_1 => List.rec (motive := fun _ => List AV → Bool) (fun e_1 => (List.rec (motive := fun _ => Bool) true (fun x_865 x_866 _ => false) e_1)) (fun h_0 t_0 ih e_1 => (List.rec (motive := fun _ => Bool) false (fun a_867 q_868 _ => (Bool.rec (motive := fun _ => Bool) false (ih q_868) (chkV tab fs θ h_0 a_867))) e_1)) e_0 e_1
theorem chkVs_def (tab : Tb) (fs : List Ln) (θ : Th) (e_0 : List AV) (e_1 : List AV) : chkVs tab fs θ e_0 e_1 = (match e_0, e_1 with
  | [], [] => true
  | p :: r, a :: q => bif chkV tab fs θ p a then chkVs tab fs θ r q else false
  | _, _ => false) := by
  cases e_0 with
  | nil =>
    show (List.rec (motive := fun _ => Bool) true (fun x_869 x_870 _ => false) e_1) = _
    try simp only [iAddQ_eq, iMulQ_eq, iNegQ_eq, lenQ_eq, nthQ_eq, setQ_eq, appQ_eq, mapQ_eq, allQ_eq, anyQ_eq, dropQ_eq, takeQ_eq, revQ_eq, getDQ_eq, optLQ_eq, brecC]
    all_goals
      cases e_1 with
      | nil =>
        try dsimp only [cond_false, cond_true]
        all_goals rfl
      | cons y_871 y_872 =>
        try dsimp only [cond_false, cond_true]
        all_goals rfl
  | cons h_0 t_0 =>
    show (List.rec (motive := fun _ => Bool) false (fun a_873 q_874 _ => (Bool.rec (motive := fun _ => Bool) false (chkVs tab fs θ t_0 q_874) (chkV tab fs θ h_0 a_873))) e_1) = _
    try simp only [iAddQ_eq, iMulQ_eq, iNegQ_eq, lenQ_eq, nthQ_eq, setQ_eq, appQ_eq, mapQ_eq, allQ_eq, anyQ_eq, dropQ_eq, takeQ_eq, revQ_eq, getDQ_eq, optLQ_eq, brecC]
    all_goals
      cases e_1 with
      | nil =>
        try dsimp only [cond_false, cond_true]
        all_goals rfl
      | cons y_875 y_876 =>
        try dsimp only [cond_false, cond_true]
        all_goals
          cases hq_3 : (chkV tab fs θ h_0 y_875) with
          | false =>
            try dsimp only [cond_false, cond_true]
            all_goals rfl
          | true =>
            try dsimp only [cond_false, cond_true]
            all_goals rfl
noncomputable def sgLe (tab : Tb) (fs : List Ln) (θ : Th) : Nat → List Sg → List Sg → Bool :=
  fun e_0 e_1 e_2 => Nat.rec (motive := fun _ => List Sg → List Sg → Bool) (fun e_1 e_2 => false) (fun t_0 ih e_1 e_2 => (List.rec (motive := fun _ => Bool) (List.rec (motive := fun _ => Bool) true (fun x_879 q_880 _ => (Sum.rec (motive := fun _ => Bool) (fun x_881 => false) (fun x_882 => (Prod.rec (motive := fun _ => Bool) (fun m_883 x_884 => (Prod.rec (motive := fun _ => Bool) (fun x_885 x_886 => (Bool.rec (motive := fun _ => Bool) false (ih [] q_880) (Nat.beq m_883 (nat_lit 0)))) x_884)) x_882)) x_879)) e_2) (fun x_877 r_878 _ => (Sum.rec (motive := fun _ => Bool) (fun e_887 => (List.rec (motive := fun _ => Bool) false (fun x_889 q_890 _ => (Sum.rec (motive := fun _ => Bool) (fun e_891 => (Bool.rec (motive := fun _ => Bool) false (ih r_878 q_890) (eqL tab fs (sbL θ e_887) e_891))) (fun x_892 => (Prod.rec (motive := fun _ => Bool) (fun m_893 x_894 => (Prod.rec (motive := fun _ => Bool) (fun lo_895 hi_896 => (Nat.rec (motive := fun _ => Bool) (ih ((.inl e_887) :: r_878) q_890) (fun m_897 _ => (Bool.rec (motive := fun _ => Bool) false (Bool.rec (motive := fun _ => Bool) false (ih r_878 ((.inr (m_897, lo_895, hi_896)) :: q_890)) (eqL tab fs (sbL θ e_887) (kL lo_895))) (eqI lo_895 hi_896))) m_893)) x_894)) x_892)) x_889)) e_2)) (fun x_888 => (Prod.rec (motive := fun _ => Bool) (fun m_898 x_899 => (Prod.rec (motive := fun _ => Bool) (fun lo_900 hi_901 => (List.rec (motive := fun _ => Bool) (Bool.rec (motive := fun _ => Bool) false (ih r_878 []) (Nat.beq m_898 (nat_lit 0))) (fun x_902 q_903 _ => (Sum.rec (motive := fun _ => Bool) (fun e_904 => (Nat.rec (motive := fun _ => Bool) (ih r_878 ((.inl e_904) :: q_903)) (fun m_906 _ => (Bool.rec (motive := fun _ => Bool) false (ih ((.inr (m_906, lo_900, hi_901)) :: r_878) q_903) (inF tab fs lo_900 hi_901 e_904))) m_898)) (fun x_905 => (Prod.rec (motive := fun _ => Bool) (fun m_907 x_908 => (Prod.rec (motive := fun _ => Bool) (fun lo_909 hi_910 => (Bool.rec (motive := fun _ => Bool) false (Bool.rec (motive := fun _ => Bool) (ih ((.inr ((Nat.sub m_898 m_907), lo_900, hi_901)) :: r_878) q_903) (Bool.rec (motive := fun _ => Bool) (ih r_878 ((.inr ((Nat.sub m_907 m_898), lo_909, hi_910)) :: q_903)) (ih r_878 q_903) (Nat.beq m_898 m_907)) (Nat.ble m_898 m_907)) (Bool.rec (motive := fun _ => Bool) (Bool.rec (motive := fun _ => Bool) (Bool.rec (motive := fun _ => Bool) false (leI hi_910 hi_901) (leI lo_900 lo_909)) true (Nat.beq m_898 (nat_lit 0))) true (Nat.beq m_907 (nat_lit 0))))) x_908)) x_905)) x_902)) e_2)) x_899)) x_888)) x_877)) e_1)) e_0 e_1 e_2
theorem sgLe_def (tab : Tb) (fs : List Ln) (θ : Th) (e_0 : Nat) (e_1 : List Sg) (e_2 : List Sg) : sgLe tab fs θ e_0 e_1 e_2 = (match e_0, e_1, e_2 with
  | 0, _, _ => false
  | n + 1, p, a => match p, a with
    | [], [] => true
    | .inl e :: r, .inl e' :: q => bif eqL tab fs (sbL θ e) e' then sgLe tab fs θ n r q else false
    | .inl e :: r, .inr (m, lo, hi) :: q => match m with
      | 0 => sgLe tab fs θ n (.inl e :: r) q
      | m + 1 => bif eqI lo hi then (bif eqL tab fs (sbL θ e) (kL lo) then sgLe tab fs θ n r (.inr (m, lo, hi) :: q) else false) else false
    | .inr (m, lo, hi) :: r, [] => bif Nat.beq m 0 then sgLe tab fs θ n r [] else false
    | [], .inr (m, _, _) :: q => bif Nat.beq m 0 then sgLe tab fs θ n [] q else false
    | .inr (m, lo, hi) :: r, .inl e' :: q => match m with
      | 0 => sgLe tab fs θ n r (.inl e' :: q)
      | m + 1 => bif inF tab fs lo hi e' then sgLe tab fs θ n (.inr (m, lo, hi) :: r) q else false
    | .inr (m, lo, hi) :: r, .inr (m', lo', hi') :: q => bif (bif Nat.beq m' 0 then true else bif Nat.beq m 0 then true else bif leI lo lo' then leI hi' hi else false) then (bif Nat.ble m m' then (bif Nat.beq m m' then sgLe tab fs θ n r q else sgLe tab fs θ n r (.inr (Nat.sub m' m, lo', hi') :: q)) else sgLe tab fs θ n (.inr (Nat.sub m m', lo, hi) :: r) q) else false
    | _, _ => false) := by
  cases e_0 with
  | zero =>
    show false = _
    try simp only [iAddQ_eq, iMulQ_eq, iNegQ_eq, lenQ_eq, nthQ_eq, setQ_eq, appQ_eq, mapQ_eq, allQ_eq, anyQ_eq, dropQ_eq, takeQ_eq, revQ_eq, getDQ_eq, optLQ_eq, brecC]
    all_goals rfl
  | succ t_0 =>
    show (List.rec (motive := fun _ => Bool) (List.rec (motive := fun _ => Bool) true (fun x_913 q_914 _ => (Sum.rec (motive := fun _ => Bool) (fun x_915 => false) (fun x_916 => (Prod.rec (motive := fun _ => Bool) (fun m_917 x_918 => (Prod.rec (motive := fun _ => Bool) (fun x_919 x_920 => (Bool.rec (motive := fun _ => Bool) false (sgLe tab fs θ t_0 [] q_914) (Nat.beq m_917 (nat_lit 0)))) x_918)) x_916)) x_913)) e_2) (fun x_911 r_912 _ => (Sum.rec (motive := fun _ => Bool) (fun e_921 => (List.rec (motive := fun _ => Bool) false (fun x_923 q_924 _ => (Sum.rec (motive := fun _ => Bool) (fun e_925 => (Bool.rec (motive := fun _ => Bool) false (sgLe tab fs θ t_0 r_912 q_924) (eqL tab fs (sbL θ e_921) e_925))) (fun x_926 => (Prod.rec (motive := fun _ => Bool) (fun m_927 x_928 => (Prod.rec (motive := fun _ => Bool) (fun lo_929 hi_930 => (Nat.rec (motive := fun _ => Bool) (sgLe tab fs θ t_0 ((.inl e_921) :: r_912) q_924) (fun m_931 _ => (Bool.rec (motive := fun _ => Bool) false (Bool.rec (motive := fun _ => Bool) false (sgLe tab fs θ t_0 r_912 ((.inr (m_931, lo_929, hi_930)) :: q_924)) (eqL tab fs (sbL θ e_921) (kL lo_929))) (eqI lo_929 hi_930))) m_927)) x_928)) x_926)) x_923)) e_2)) (fun x_922 => (Prod.rec (motive := fun _ => Bool) (fun m_932 x_933 => (Prod.rec (motive := fun _ => Bool) (fun lo_934 hi_935 => (List.rec (motive := fun _ => Bool) (Bool.rec (motive := fun _ => Bool) false (sgLe tab fs θ t_0 r_912 []) (Nat.beq m_932 (nat_lit 0))) (fun x_936 q_937 _ => (Sum.rec (motive := fun _ => Bool) (fun e_938 => (Nat.rec (motive := fun _ => Bool) (sgLe tab fs θ t_0 r_912 ((.inl e_938) :: q_937)) (fun m_940 _ => (Bool.rec (motive := fun _ => Bool) false (sgLe tab fs θ t_0 ((.inr (m_940, lo_934, hi_935)) :: r_912) q_937) (inF tab fs lo_934 hi_935 e_938))) m_932)) (fun x_939 => (Prod.rec (motive := fun _ => Bool) (fun m_941 x_942 => (Prod.rec (motive := fun _ => Bool) (fun lo_943 hi_944 => (Bool.rec (motive := fun _ => Bool) false (Bool.rec (motive := fun _ => Bool) (sgLe tab fs θ t_0 ((.inr ((Nat.sub m_932 m_941), lo_934, hi_935)) :: r_912) q_937) (Bool.rec (motive := fun _ => Bool) (sgLe tab fs θ t_0 r_912 ((.inr ((Nat.sub m_941 m_932), lo_943, hi_944)) :: q_937)) (sgLe tab fs θ t_0 r_912 q_937) (Nat.beq m_932 m_941)) (Nat.ble m_932 m_941)) (Bool.rec (motive := fun _ => Bool) (Bool.rec (motive := fun _ => Bool) (Bool.rec (motive := fun _ => Bool) false (leI hi_944 hi_935) (leI lo_934 lo_943)) true (Nat.beq m_932 (nat_lit 0))) true (Nat.beq m_941 (nat_lit 0))))) x_942)) x_939)) x_936)) e_2)) x_933)) x_922)) x_911)) e_1) = _
    try simp only [iAddQ_eq, iMulQ_eq, iNegQ_eq, lenQ_eq, nthQ_eq, setQ_eq, appQ_eq, mapQ_eq, allQ_eq, anyQ_eq, dropQ_eq, takeQ_eq, revQ_eq, getDQ_eq, optLQ_eq, brecC]
    all_goals
      cases e_1 with
      | nil =>
        try dsimp only [cond_false, cond_true]
        all_goals
          cases e_2 with
          | nil =>
            try dsimp only [cond_false, cond_true]
            all_goals rfl
          | cons y_945 y_946 =>
            try dsimp only [cond_false, cond_true]
            all_goals
              cases y_945 with
              | inl y_947 =>
                try dsimp only [cond_false, cond_true]
                all_goals rfl
              | inr y_948 =>
                try dsimp only [cond_false, cond_true]
                all_goals
                  cases y_948 with
                  | mk y_949 y_950 =>
                    try dsimp only [cond_false, cond_true]
                    all_goals
                      cases y_950 with
                      | mk y_951 y_952 =>
                        try dsimp only [cond_false, cond_true]
                        all_goals
                          cases hq_6 : (Nat.beq y_949 0) with
                          | false =>
                            try dsimp only [cond_false, cond_true]
                            all_goals rfl
                          | true =>
                            try dsimp only [cond_false, cond_true]
                            all_goals rfl
      | cons y_953 y_954 =>
        try dsimp only [cond_false, cond_true]
        all_goals
          cases y_953 with
          | inl y_955 =>
            try dsimp only [cond_false, cond_true]
            all_goals
              cases e_2 with
              | nil =>
                try dsimp only [cond_false, cond_true]
                all_goals rfl
              | cons y_956 y_957 =>
                try dsimp only [cond_false, cond_true]
                all_goals
                  cases y_956 with
                  | inl y_958 =>
                    try dsimp only [cond_false, cond_true]
                    all_goals
                      cases hq_10 : (eqL tab fs ((sbL θ y_955)) y_958) with
                      | false =>
                        try dsimp only [cond_false, cond_true]
                        all_goals rfl
                      | true =>
                        try dsimp only [cond_false, cond_true]
                        all_goals rfl
                  | inr y_959 =>
                    try dsimp only [cond_false, cond_true]
                    all_goals
                      cases y_959 with
                      | mk y_960 y_961 =>
                        try dsimp only [cond_false, cond_true]
                        all_goals
                          cases y_961 with
                          | mk y_962 y_963 =>
                            try dsimp only [cond_false, cond_true]
                            all_goals
                              cases y_960 with
                              | zero =>
                                try dsimp only [cond_false, cond_true]
                                all_goals rfl
                              | succ y_964 =>
                                try dsimp only [cond_false, cond_true]
                                all_goals
                                  cases hq_14 : (eqI y_962 y_963) with
                                  | false =>
                                    try dsimp only [cond_false, cond_true]
                                    all_goals rfl
                                  | true =>
                                    try dsimp only [cond_false, cond_true]
                                    all_goals
                                      cases hq_15 : (eqL tab fs ((sbL θ y_955)) ((kL y_962))) with
                                      | false =>
                                        try dsimp only [cond_false, cond_true]
                                        all_goals rfl
                                      | true =>
                                        try dsimp only [cond_false, cond_true]
                                        all_goals rfl
          | inr y_965 =>
            try dsimp only [cond_false, cond_true]
            all_goals
              cases y_965 with
              | mk y_966 y_967 =>
                try dsimp only [cond_false, cond_true]
                all_goals
                  cases y_967 with
                  | mk y_968 y_969 =>
                    try dsimp only [cond_false, cond_true]
                    all_goals
                      cases e_2 with
                      | nil =>
                        try dsimp only [cond_false, cond_true]
                        all_goals
                          cases hq_19 : (Nat.beq y_966 0) with
                          | false =>
                            try dsimp only [cond_false, cond_true]
                            all_goals rfl
                          | true =>
                            try dsimp only [cond_false, cond_true]
                            all_goals rfl
                      | cons y_970 y_971 =>
                        try dsimp only [cond_false, cond_true]
                        all_goals
                          cases y_970 with
                          | inl y_972 =>
                            try dsimp only [cond_false, cond_true]
                            all_goals
                              cases y_966 with
                              | zero =>
                                try dsimp only [cond_false, cond_true]
                                all_goals rfl
                              | succ y_973 =>
                                try dsimp only [cond_false, cond_true]
                                all_goals
                                  cases hq_22 : (inF tab fs y_968 y_969 y_972) with
                                  | false =>
                                    try dsimp only [cond_false, cond_true]
                                    all_goals rfl
                                  | true =>
                                    try dsimp only [cond_false, cond_true]
                                    all_goals rfl
                          | inr y_974 =>
                            try dsimp only [cond_false, cond_true]
                            all_goals
                              cases y_974 with
                              | mk y_975 y_976 =>
                                try dsimp only [cond_false, cond_true]
                                all_goals
                                  cases y_976 with
                                  | mk y_977 y_978 =>
                                    try dsimp only [cond_false, cond_true]
                                    all_goals
                                      cases hq_25 : ((bif (Nat.beq y_975 0) then true else (bif (Nat.beq y_966 0) then true else (bif (leI y_968 y_977) then (leI y_978 y_969) else false)))) with
                                      | false =>
                                        try dsimp only [cond_false, cond_true]
                                        all_goals rfl
                                      | true =>
                                        try dsimp only [cond_false, cond_true]
                                        all_goals
                                          cases hq_26 : (Nat.ble y_966 y_975) with
                                          | false =>
                                            try dsimp only [cond_false, cond_true]
                                            all_goals rfl
                                          | true =>
                                            try dsimp only [cond_false, cond_true]
                                            all_goals
                                              cases hq_27 : (Nat.beq y_966 y_975) with
                                              | false =>
                                                try dsimp only [cond_false, cond_true]
                                                all_goals rfl
                                              | true =>
                                                try dsimp only [cond_false, cond_true]
                                                all_goals rfl
noncomputable def eqO  : List (Option Nat) → List (Option Nat) → Bool :=
  fun e_0 e_1 => List.rec (motive := fun _ => List (Option Nat) → Bool) (fun e_1 => (List.rec (motive := fun _ => Bool) true (fun x_979 x_980 _ => false) e_1)) (fun h_0 t_0 ih e_1 => (Option.rec (motive := fun _ => Bool) (List.rec (motive := fun _ => Bool) false (fun x_982 q_983 _ => (Option.rec (motive := fun _ => Bool) (ih q_983) (fun x_984 => false) x_982)) e_1) (fun i_981 => (List.rec (motive := fun _ => Bool) false (fun x_985 q_986 _ => (Option.rec (motive := fun _ => Bool) false (fun j_987 => (Bool.rec (motive := fun _ => Bool) false (ih q_986) (Nat.beq i_981 j_987))) x_985)) e_1)) h_0)) e_0 e_1
theorem eqO_def  (e_0 : List (Option Nat)) (e_1 : List (Option Nat)) : eqO  e_0 e_1 = (match e_0, e_1 with
  | [], [] => true
  | some i :: r, some j :: q => bif Nat.beq i j then eqO r q else false
  | none :: r, none :: q => eqO r q
  | _, _ => false) := by
  cases e_0 with
  | nil =>
    show (List.rec (motive := fun _ => Bool) true (fun x_988 x_989 _ => false) e_1) = _
    try simp only [iAddQ_eq, iMulQ_eq, iNegQ_eq, lenQ_eq, nthQ_eq, setQ_eq, appQ_eq, mapQ_eq, allQ_eq, anyQ_eq, dropQ_eq, takeQ_eq, revQ_eq, getDQ_eq, optLQ_eq, brecC]
    all_goals
      cases e_1 with
      | nil =>
        try dsimp only [cond_false, cond_true]
        all_goals rfl
      | cons y_990 y_991 =>
        try dsimp only [cond_false, cond_true]
        all_goals rfl
  | cons h_0 t_0 =>
    show (Option.rec (motive := fun _ => Bool) (List.rec (motive := fun _ => Bool) false (fun x_993 q_994 _ => (Option.rec (motive := fun _ => Bool) (eqO t_0 q_994) (fun x_995 => false) x_993)) e_1) (fun i_992 => (List.rec (motive := fun _ => Bool) false (fun x_996 q_997 _ => (Option.rec (motive := fun _ => Bool) false (fun j_998 => (Bool.rec (motive := fun _ => Bool) false (eqO t_0 q_997) (Nat.beq i_992 j_998))) x_996)) e_1)) h_0) = _
    try simp only [iAddQ_eq, iMulQ_eq, iNegQ_eq, lenQ_eq, nthQ_eq, setQ_eq, appQ_eq, mapQ_eq, allQ_eq, anyQ_eq, dropQ_eq, takeQ_eq, revQ_eq, getDQ_eq, optLQ_eq, brecC]
    all_goals
      cases h_0 with
      | none =>
        try dsimp only [cond_false, cond_true]
        all_goals
          cases e_1 with
          | nil =>
            try dsimp only [cond_false, cond_true]
            all_goals rfl
          | cons y_999 y_1000 =>
            try dsimp only [cond_false, cond_true]
            all_goals
              cases y_999 with
              | none =>
                try dsimp only [cond_false, cond_true]
                all_goals rfl
              | some y_1001 =>
                try dsimp only [cond_false, cond_true]
                all_goals rfl
      | some y_1002 =>
        try dsimp only [cond_false, cond_true]
        all_goals
          cases e_1 with
          | nil =>
            try dsimp only [cond_false, cond_true]
            all_goals rfl
          | cons y_1003 y_1004 =>
            try dsimp only [cond_false, cond_true]
            all_goals
              cases y_1003 with
              | none =>
                try dsimp only [cond_false, cond_true]
                all_goals rfl
              | some y_1005 =>
                try dsimp only [cond_false, cond_true]
                all_goals
                  cases hq_7 : (Nat.beq y_1002 y_1005) with
                  | false =>
                    try dsimp only [cond_false, cond_true]
                    all_goals rfl
                  | true =>
                    try dsimp only [cond_false, cond_true]
                    all_goals rfl
noncomputable def eqN  : List Nat → List Nat → Bool :=
  fun e_0 e_1 => List.rec (motive := fun _ => List Nat → Bool) (fun e_1 => (List.rec (motive := fun _ => Bool) true (fun x_1006 x_1007 _ => false) e_1)) (fun h_0 t_0 ih e_1 => (List.rec (motive := fun _ => Bool) false (fun j_1008 q_1009 _ => (Bool.rec (motive := fun _ => Bool) false (ih q_1009) (Nat.beq h_0 j_1008))) e_1)) e_0 e_1
theorem eqN_def  (e_0 : List Nat) (e_1 : List Nat) : eqN  e_0 e_1 = (match e_0, e_1 with
  | [], [] => true
  | i :: r, j :: q => bif Nat.beq i j then eqN r q else false
  | _, _ => false) := by
  cases e_0 with
  | nil =>
    show (List.rec (motive := fun _ => Bool) true (fun x_1010 x_1011 _ => false) e_1) = _
    try simp only [iAddQ_eq, iMulQ_eq, iNegQ_eq, lenQ_eq, nthQ_eq, setQ_eq, appQ_eq, mapQ_eq, allQ_eq, anyQ_eq, dropQ_eq, takeQ_eq, revQ_eq, getDQ_eq, optLQ_eq, brecC]
    all_goals
      cases e_1 with
      | nil =>
        try dsimp only [cond_false, cond_true]
        all_goals rfl
      | cons y_1012 y_1013 =>
        try dsimp only [cond_false, cond_true]
        all_goals rfl
  | cons h_0 t_0 =>
    show (List.rec (motive := fun _ => Bool) false (fun j_1014 q_1015 _ => (Bool.rec (motive := fun _ => Bool) false (eqN t_0 q_1015) (Nat.beq h_0 j_1014))) e_1) = _
    try simp only [iAddQ_eq, iMulQ_eq, iNegQ_eq, lenQ_eq, nthQ_eq, setQ_eq, appQ_eq, mapQ_eq, allQ_eq, anyQ_eq, dropQ_eq, takeQ_eq, revQ_eq, getDQ_eq, optLQ_eq, brecC]
    all_goals
      cases e_1 with
      | nil =>
        try dsimp only [cond_false, cond_true]
        all_goals rfl
      | cons y_1016 y_1017 =>
        try dsimp only [cond_false, cond_true]
        all_goals
          cases hq_3 : (Nat.beq h_0 y_1016) with
          | false =>
            try dsimp only [cond_false, cond_true]
            all_goals rfl
          | true =>
            try dsimp only [cond_false, cond_true]
            all_goals rfl
noncomputable def conLe (tab : Tb) (fs : List Ln) (θ : Th) (p a : List Sg) : Bool :=
  (List.rec (motive := fun _ => Bool) false (fun x_1018 x_1019 _ => (Sum.rec (motive := fun _ => Bool) (fun e_1020 => (List.rec (motive := fun _ => Bool) (List.rec (motive := fun _ => Bool) false (fun x_1024 x_1025 _ => (Sum.rec (motive := fun _ => Bool) (fun e_1026 => (List.rec (motive := fun _ => Bool) (eqL tab fs (sbL θ e_1020) e_1026) (fun x_1028 x_1029 _ => false) x_1025)) (fun x_1027 => false) x_1024)) a) (fun x_1022 x_1023 _ => false) x_1019)) (fun x_1021 => false) x_1018)) p)
theorem conLe_def (tab : Tb) (fs : List Ln) (θ : Th) (p a : List Sg) : conLe tab fs θ p a = (match p, a with
  | [.inl e], [.inl e'] => eqL tab fs (sbL θ e) e'
  | _, _ => false) := by
  show (List.rec (motive := fun _ => Bool) false (fun x_1018 x_1019 _ => (Sum.rec (motive := fun _ => Bool) (fun e_1020 => (List.rec (motive := fun _ => Bool) (List.rec (motive := fun _ => Bool) false (fun x_1024 x_1025 _ => (Sum.rec (motive := fun _ => Bool) (fun e_1026 => (List.rec (motive := fun _ => Bool) (eqL tab fs (sbL θ e_1020) e_1026) (fun x_1028 x_1029 _ => false) x_1025)) (fun x_1027 => false) x_1024)) a) (fun x_1022 x_1023 _ => false) x_1019)) (fun x_1021 => false) x_1018)) p) = _
  all_goals
    cases p with
    | nil =>
      try dsimp only [cond_false, cond_true]
      all_goals rfl
    | cons y_1030 y_1031 =>
      try dsimp only [cond_false, cond_true]
      all_goals
        cases y_1030 with
        | inl y_1032 =>
          try dsimp only [cond_false, cond_true]
          all_goals
            cases y_1031 with
            | nil =>
              try dsimp only [cond_false, cond_true]
              all_goals
                cases a with
                | nil =>
                  try dsimp only [cond_false, cond_true]
                  all_goals rfl
                | cons y_1033 y_1034 =>
                  try dsimp only [cond_false, cond_true]
                  all_goals
                    cases y_1033 with
                    | inl y_1035 =>
                      try dsimp only [cond_false, cond_true]
                      all_goals
                        cases y_1034 with
                        | nil =>
                          try dsimp only [cond_false, cond_true]
                          all_goals rfl
                        | cons y_1036 y_1037 =>
                          try dsimp only [cond_false, cond_true]
                          all_goals rfl
                    | inr y_1038 =>
                      try dsimp only [cond_false, cond_true]
                      all_goals rfl
            | cons y_1039 y_1040 =>
              try dsimp only [cond_false, cond_true]
              all_goals rfl
        | inr y_1041 =>
          try dsimp only [cond_false, cond_true]
          all_goals rfl
noncomputable def chkC (tab : Tb) (fs : List Ln) (θ : Th) (p a : AC) : Bool :=
  (Sum.rec (motive := fun _ => Bool) (fun x_1042 => (Prod.rec (motive := fun _ => Bool) (fun c_1044 l_1045 => (Sum.rec (motive := fun _ => Bool) (fun x_1046 => (Prod.rec (motive := fun _ => Bool) (fun c_1048 l_1049 => (Bool.rec (motive := fun _ => Bool) false (chkVs tab fs θ l_1045 l_1049) (Nat.beq c_1044 c_1048))) x_1046)) (fun x_1047 => false) a)) x_1042)) (fun x_1043 => (Prod.rec (motive := fun _ => Bool) (fun k_1050 x_1051 => (Sum.rec (motive := fun _ => Bool) (fun s_1052 => (Sum.rec (motive := fun _ => Bool) (fun x_1054 => false) (fun x_1055 => (Prod.rec (motive := fun _ => Bool) (fun k_1056 x_1057 => (Sum.rec (motive := fun _ => Bool) (fun s_1058 => (Bool.rec (motive := fun _ => Bool) false (Bool.rec (motive := fun _ => Bool) (conLe tab fs θ s_1052 s_1058) (sgLe tab fs θ (nat_lit 600) s_1052 s_1058) (Nat.blt k_1050 (nat_lit 100))) (Nat.beq k_1050 k_1056))) (fun x_1059 => false) x_1057)) x_1055)) a)) (fun x_1053 => (Sum.rec (motive := fun _ => Bool) (fun m_1060 => (Sum.rec (motive := fun _ => Bool) (fun x_1062 => false) (fun x_1063 => (Prod.rec (motive := fun _ => Bool) (fun k_1064 x_1065 => (Sum.rec (motive := fun _ => Bool) (fun x_1066 => false) (fun x_1067 => (Sum.rec (motive := fun _ => Bool) (fun m_1068 => (Bool.rec (motive := fun _ => Bool) false (Bool.rec (motive := fun _ => Bool) (Bool.rec (motive := fun _ => Bool) false (Nat.beq m_1068 (Nat.add zB m_1060)) (Nat.blt m_1060 zB)) true (Nat.beq m_1060 m_1068)) (Nat.beq k_1050 k_1064))) (fun x_1069 => false) x_1067)) x_1065)) x_1063)) a)) (fun l_1061 => (Sum.rec (motive := fun _ => Bool) (fun x_1070 => false) (fun x_1071 => (Prod.rec (motive := fun _ => Bool) (fun k_1072 x_1073 => (Sum.rec (motive := fun _ => Bool) (fun x_1074 => false) (fun x_1075 => (Sum.rec (motive := fun _ => Bool) (fun x_1076 => false) (fun l_1077 => (Bool.rec (motive := fun _ => Bool) false (eqO l_1061 l_1077) (Nat.beq k_1050 k_1072))) x_1075)) x_1073)) x_1071)) a)) x_1053)) x_1051)) x_1043)) p)
theorem chkC_def (tab : Tb) (fs : List Ln) (θ : Th) (p a : AC) : chkC tab fs θ p a = (match p, a with
  | .inl (c, l), .inl (c', l') => bif Nat.beq c c' then chkVs tab fs θ l l' else false
  | .inr (k, .inl s), .inr (k', .inl s') => bif Nat.beq k k' then (bif Nat.blt k 100 then sgLe tab fs θ 600 s s' else conLe tab fs θ s s') else false
  | .inr (k, .inr (.inl m)), .inr (k', .inr (.inl m')) => bif Nat.beq k k' then (bif Nat.beq m m' then true else bif Nat.blt m zB then Nat.beq m' (Nat.add zB m) else false) else false
  | .inr (k, .inr (.inr l)), .inr (k', .inr (.inr l')) => bif Nat.beq k k' then eqO l l' else false
  | _, _ => false) := by
  show (Sum.rec (motive := fun _ => Bool) (fun x_1042 => (Prod.rec (motive := fun _ => Bool) (fun c_1044 l_1045 => (Sum.rec (motive := fun _ => Bool) (fun x_1046 => (Prod.rec (motive := fun _ => Bool) (fun c_1048 l_1049 => (Bool.rec (motive := fun _ => Bool) false (chkVs tab fs θ l_1045 l_1049) (Nat.beq c_1044 c_1048))) x_1046)) (fun x_1047 => false) a)) x_1042)) (fun x_1043 => (Prod.rec (motive := fun _ => Bool) (fun k_1050 x_1051 => (Sum.rec (motive := fun _ => Bool) (fun s_1052 => (Sum.rec (motive := fun _ => Bool) (fun x_1054 => false) (fun x_1055 => (Prod.rec (motive := fun _ => Bool) (fun k_1056 x_1057 => (Sum.rec (motive := fun _ => Bool) (fun s_1058 => (Bool.rec (motive := fun _ => Bool) false (Bool.rec (motive := fun _ => Bool) (conLe tab fs θ s_1052 s_1058) (sgLe tab fs θ (nat_lit 600) s_1052 s_1058) (Nat.blt k_1050 (nat_lit 100))) (Nat.beq k_1050 k_1056))) (fun x_1059 => false) x_1057)) x_1055)) a)) (fun x_1053 => (Sum.rec (motive := fun _ => Bool) (fun m_1060 => (Sum.rec (motive := fun _ => Bool) (fun x_1062 => false) (fun x_1063 => (Prod.rec (motive := fun _ => Bool) (fun k_1064 x_1065 => (Sum.rec (motive := fun _ => Bool) (fun x_1066 => false) (fun x_1067 => (Sum.rec (motive := fun _ => Bool) (fun m_1068 => (Bool.rec (motive := fun _ => Bool) false (Bool.rec (motive := fun _ => Bool) (Bool.rec (motive := fun _ => Bool) false (Nat.beq m_1068 (Nat.add zB m_1060)) (Nat.blt m_1060 zB)) true (Nat.beq m_1060 m_1068)) (Nat.beq k_1050 k_1064))) (fun x_1069 => false) x_1067)) x_1065)) x_1063)) a)) (fun l_1061 => (Sum.rec (motive := fun _ => Bool) (fun x_1070 => false) (fun x_1071 => (Prod.rec (motive := fun _ => Bool) (fun k_1072 x_1073 => (Sum.rec (motive := fun _ => Bool) (fun x_1074 => false) (fun x_1075 => (Sum.rec (motive := fun _ => Bool) (fun x_1076 => false) (fun l_1077 => (Bool.rec (motive := fun _ => Bool) false (eqO l_1061 l_1077) (Nat.beq k_1050 k_1072))) x_1075)) x_1073)) x_1071)) a)) x_1053)) x_1051)) x_1043)) p) = _
  try simp only [iAddQ_eq, iMulQ_eq, iNegQ_eq, lenQ_eq, nthQ_eq, setQ_eq, appQ_eq, mapQ_eq, allQ_eq, anyQ_eq, dropQ_eq, takeQ_eq, revQ_eq, getDQ_eq, optLQ_eq, brecC]
  all_goals
    cases p with
    | inl y_1078 =>
      try dsimp only [cond_false, cond_true]
      all_goals
        cases y_1078 with
        | mk y_1079 y_1080 =>
          try dsimp only [cond_false, cond_true]
          all_goals
            cases a with
            | inl y_1081 =>
              try dsimp only [cond_false, cond_true]
              all_goals
                cases y_1081 with
                | mk y_1082 y_1083 =>
                  try dsimp only [cond_false, cond_true]
                  all_goals
                    cases hq_5 : (Nat.beq y_1079 y_1082) with
                    | false =>
                      try dsimp only [cond_false, cond_true]
                      all_goals rfl
                    | true =>
                      try dsimp only [cond_false, cond_true]
                      all_goals rfl
            | inr y_1084 =>
              try dsimp only [cond_false, cond_true]
              all_goals rfl
    | inr y_1085 =>
      try dsimp only [cond_false, cond_true]
      all_goals
        cases y_1085 with
        | mk y_1086 y_1087 =>
          try dsimp only [cond_false, cond_true]
          all_goals
            cases y_1087 with
            | inl y_1088 =>
              try dsimp only [cond_false, cond_true]
              all_goals
                cases a with
                | inl y_1089 =>
                  try dsimp only [cond_false, cond_true]
                  all_goals rfl
                | inr y_1090 =>
                  try dsimp only [cond_false, cond_true]
                  all_goals
                    cases y_1090 with
                    | mk y_1091 y_1092 =>
                      try dsimp only [cond_false, cond_true]
                      all_goals
                        cases y_1092 with
                        | inl y_1093 =>
                          try dsimp only [cond_false, cond_true]
                          all_goals
                            cases hq_11 : (Nat.beq y_1086 y_1091) with
                            | false =>
                              try dsimp only [cond_false, cond_true]
                              all_goals rfl
                            | true =>
                              try dsimp only [cond_false, cond_true]
                              all_goals
                                cases hq_12 : (Nat.blt y_1086 100) with
                                | false =>
                                  try dsimp only [cond_false, cond_true]
                                  all_goals rfl
                                | true =>
                                  try dsimp only [cond_false, cond_true]
                                  all_goals rfl
                        | inr y_1094 =>
                          try dsimp only [cond_false, cond_true]
                          all_goals rfl
            | inr y_1095 =>
              try dsimp only [cond_false, cond_true]
              all_goals
                cases y_1095 with
                | inl y_1096 =>
                  try dsimp only [cond_false, cond_true]
                  all_goals
                    cases a with
                    | inl y_1097 =>
                      try dsimp only [cond_false, cond_true]
                      all_goals rfl
                    | inr y_1098 =>
                      try dsimp only [cond_false, cond_true]
                      all_goals
                        cases y_1098 with
                        | mk y_1099 y_1100 =>
                          try dsimp only [cond_false, cond_true]
                          all_goals
                            cases y_1100 with
                            | inl y_1101 =>
                              try dsimp only [cond_false, cond_true]
                              all_goals rfl
                            | inr y_1102 =>
                              try dsimp only [cond_false, cond_true]
                              all_goals
                                cases y_1102 with
                                | inl y_1103 =>
                                  try dsimp only [cond_false, cond_true]
                                  all_goals
                                    cases hq_18 : (Nat.beq y_1086 y_1099) with
                                    | false =>
                                      try dsimp only [cond_false, cond_true]
                                      all_goals rfl
                                    | true =>
                                      try dsimp only [cond_false, cond_true]
                                      all_goals
                                        cases hq_19 : (Nat.beq y_1096 y_1103) with
                                        | false =>
                                          try dsimp only [cond_false, cond_true]
                                          all_goals
                                            cases hq_20 : (Nat.blt y_1096 zB) with
                                            | false =>
                                              try dsimp only [cond_false, cond_true]
                                              all_goals rfl
                                            | true =>
                                              try dsimp only [cond_false, cond_true]
                                              all_goals rfl
                                        | true =>
                                          try dsimp only [cond_false, cond_true]
                                          all_goals rfl
                                | inr y_1104 =>
                                  try dsimp only [cond_false, cond_true]
                                  all_goals rfl
                | inr y_1105 =>
                  try dsimp only [cond_false, cond_true]
                  all_goals
                    cases a with
                    | inl y_1106 =>
                      try dsimp only [cond_false, cond_true]
                      all_goals rfl
                    | inr y_1107 =>
                      try dsimp only [cond_false, cond_true]
                      all_goals
                        cases y_1107 with
                        | mk y_1108 y_1109 =>
                          try dsimp only [cond_false, cond_true]
                          all_goals
                            cases y_1109 with
                            | inl y_1110 =>
                              try dsimp only [cond_false, cond_true]
                              all_goals rfl
                            | inr y_1111 =>
                              try dsimp only [cond_false, cond_true]
                              all_goals
                                cases y_1111 with
                                | inl y_1112 =>
                                  try dsimp only [cond_false, cond_true]
                                  all_goals rfl
                                | inr y_1113 =>
                                  try dsimp only [cond_false, cond_true]
                                  all_goals
                                    cases hq_25 : (Nat.beq y_1086 y_1108) with
                                    | false =>
                                      try dsimp only [cond_false, cond_true]
                                      all_goals rfl
                                    | true =>
                                      try dsimp only [cond_false, cond_true]
                                      all_goals rfl
noncomputable def chkH (tab : Tb) (fs : List Ln) (θ : Th) : AH → AH → Bool :=
  fun e_0 e_1 => List.rec (motive := fun _ => AH → Bool) (fun e_1 => (List.rec (motive := fun _ => Bool) true (fun x_1114 x_1115 _ => false) e_1)) (fun h_0 t_0 ih e_1 => (List.rec (motive := fun _ => Bool) false (fun a_1116 q_1117 _ => (Bool.rec (motive := fun _ => Bool) false (ih q_1117) (chkC tab fs θ h_0 a_1116))) e_1)) e_0 e_1
theorem chkH_def (tab : Tb) (fs : List Ln) (θ : Th) (e_0 : AH) (e_1 : AH) : chkH tab fs θ e_0 e_1 = (match e_0, e_1 with
  | [], [] => true
  | p :: r, a :: q => bif chkC tab fs θ p a then chkH tab fs θ r q else false
  | _, _ => false) := by
  cases e_0 with
  | nil =>
    show (List.rec (motive := fun _ => Bool) true (fun x_1118 x_1119 _ => false) e_1) = _
    try simp only [iAddQ_eq, iMulQ_eq, iNegQ_eq, lenQ_eq, nthQ_eq, setQ_eq, appQ_eq, mapQ_eq, allQ_eq, anyQ_eq, dropQ_eq, takeQ_eq, revQ_eq, getDQ_eq, optLQ_eq, brecC]
    all_goals
      cases e_1 with
      | nil =>
        try dsimp only [cond_false, cond_true]
        all_goals rfl
      | cons y_1120 y_1121 =>
        try dsimp only [cond_false, cond_true]
        all_goals rfl
  | cons h_0 t_0 =>
    show (List.rec (motive := fun _ => Bool) false (fun a_1122 q_1123 _ => (Bool.rec (motive := fun _ => Bool) false (chkH tab fs θ t_0 q_1123) (chkC tab fs θ h_0 a_1122))) e_1) = _
    try simp only [iAddQ_eq, iMulQ_eq, iNegQ_eq, lenQ_eq, nthQ_eq, setQ_eq, appQ_eq, mapQ_eq, allQ_eq, anyQ_eq, dropQ_eq, takeQ_eq, revQ_eq, getDQ_eq, optLQ_eq, brecC]
    all_goals
      cases e_1 with
      | nil =>
        try dsimp only [cond_false, cond_true]
        all_goals rfl
      | cons y_1124 y_1125 =>
        try dsimp only [cond_false, cond_true]
        all_goals
          cases hq_3 : (chkC tab fs θ h_0 y_1124) with
          | false =>
            try dsimp only [cond_false, cond_true]
            all_goals rfl
          | true =>
            try dsimp only [cond_false, cond_true]
            all_goals rfl
noncomputable def uniP1 (tab : Tb) (fs : List Ln) (θ : Un) (p : PD) : List PD → Un :=
  fun e_0 => List.rec (motive := fun _ => Un) θ (fun h_0 t_0 ih => (Bool.rec (motive := fun _ => Un) (ih) (uniN θ p.2.2 h_0.2.2) (Bool.rec (motive := fun _ => Bool) false (Bool.rec (motive := fun _ => Bool) false (okNums tab fs θ p.2.2 h_0.2.2) (eqN p.2.1 h_0.2.1)) (Nat.beq p.1 h_0.1)))) e_0 
theorem uniP1_def (tab : Tb) (fs : List Ln) (θ : Un) (p : PD) (e_0 : List PD) : uniP1 tab fs θ p e_0 = (match e_0 with
  | [] => θ
  | q :: r => bif (bif Nat.beq p.1 q.1 then (bif eqN p.2.1 q.2.1 then okNums tab fs θ p.2.2 q.2.2 else false) else false) then uniN θ p.2.2 q.2.2 else uniP1 tab fs θ p r) := by
  cases e_0 with
  | nil =>
    show θ = _
    try simp only [iAddQ_eq, iMulQ_eq, iNegQ_eq, lenQ_eq, nthQ_eq, setQ_eq, appQ_eq, mapQ_eq, allQ_eq, anyQ_eq, dropQ_eq, takeQ_eq, revQ_eq, getDQ_eq, optLQ_eq, brecC]
    all_goals rfl
  | cons h_0 t_0 =>
    show (Bool.rec (motive := fun _ => Un) (uniP1 tab fs θ p t_0) (uniN θ p.2.2 h_0.2.2) (Bool.rec (motive := fun _ => Bool) false (Bool.rec (motive := fun _ => Bool) false (okNums tab fs θ p.2.2 h_0.2.2) (eqN p.2.1 h_0.2.1)) (Nat.beq p.1 h_0.1))) = _
    try simp only [iAddQ_eq, iMulQ_eq, iNegQ_eq, lenQ_eq, nthQ_eq, setQ_eq, appQ_eq, mapQ_eq, allQ_eq, anyQ_eq, dropQ_eq, takeQ_eq, revQ_eq, getDQ_eq, optLQ_eq, brecC]
    all_goals
      cases hq_1 : ((bif (Nat.beq p.1 h_0.1) then ((bif (eqN p.2.1 h_0.2.1) then (okNums tab fs θ p.2.2 h_0.2.2) else false)) else false)) with
      | false =>
        try dsimp only [cond_false, cond_true]
        all_goals rfl
      | true =>
        try dsimp only [cond_false, cond_true]
        all_goals rfl
noncomputable def uniP (tab : Tb) (fs : List Ln) (a : List PD) : Un → List PD → Un :=
  fun θ e_0 => List.rec (motive := fun _ => Un → Un) (fun θ => θ) (fun h_0 t_0 ih θ => (Prod.rec (motive := fun _ => Un) (fun k_1126 x_1127 => (Prod.rec (motive := fun _ => Un) (fun l_1128 x_1129 => (List.rec (motive := fun _ => Un) (ih θ) (fun x_1130 x_1131 _ => (ih (uniP1 tab fs θ h_0 a))) x_1129)) x_1127)) h_0)) e_0 θ
theorem uniP_def (tab : Tb) (fs : List Ln) (a : List PD) (θ : Un) (e_0 : List PD) : uniP tab fs a θ e_0 = (match e_0 with
  | [] => θ
  | (k, l, []) :: r => uniP tab fs a θ r
  | p :: r => uniP tab fs a (uniP1 tab fs θ p a) r) := by
  cases e_0 with
  | nil =>
    show θ = _
    try simp only [iAddQ_eq, iMulQ_eq, iNegQ_eq, lenQ_eq, nthQ_eq, setQ_eq, appQ_eq, mapQ_eq, allQ_eq, anyQ_eq, dropQ_eq, takeQ_eq, revQ_eq, getDQ_eq, optLQ_eq, brecC]
    all_goals rfl
  | cons h_0 t_0 =>
    show (Prod.rec (motive := fun _ => Un) (fun k_1132 x_1133 => (Prod.rec (motive := fun _ => Un) (fun l_1134 x_1135 => (List.rec (motive := fun _ => Un) (uniP tab fs a θ t_0) (fun x_1136 x_1137 _ => (uniP tab fs a (uniP1 tab fs θ h_0 a) t_0)) x_1135)) x_1133)) h_0) = _
    try simp only [iAddQ_eq, iMulQ_eq, iNegQ_eq, lenQ_eq, nthQ_eq, setQ_eq, appQ_eq, mapQ_eq, allQ_eq, anyQ_eq, dropQ_eq, takeQ_eq, revQ_eq, getDQ_eq, optLQ_eq, brecC]
    all_goals
      cases h_0 with
      | mk y_1138 y_1139 =>
        try dsimp only [cond_false, cond_true]
        all_goals
          cases y_1139 with
          | mk y_1140 y_1141 =>
            try dsimp only [cond_false, cond_true]
            all_goals
              cases y_1141 with
              | nil =>
                try dsimp only [cond_false, cond_true]
                all_goals rfl
              | cons y_1142 y_1143 =>
                try dsimp only [cond_false, cond_true]
                all_goals rfl
noncomputable def chkN (tab : Tb) (fs : List Ln) (θ : Th) : List Ln → List Ln → Bool :=
  fun e_0 e_1 => List.rec (motive := fun _ => List Ln → Bool) (fun e_1 => (List.rec (motive := fun _ => Bool) true (fun x_1144 x_1145 _ => false) e_1)) (fun h_0 t_0 ih e_1 => (List.rec (motive := fun _ => Bool) false (fun a_1146 q_1147 _ => (Bool.rec (motive := fun _ => Bool) false (ih q_1147) (eqL tab fs (sbL θ h_0) a_1146))) e_1)) e_0 e_1
theorem chkN_def (tab : Tb) (fs : List Ln) (θ : Th) (e_0 : List Ln) (e_1 : List Ln) : chkN tab fs θ e_0 e_1 = (match e_0, e_1 with
  | [], [] => true
  | p :: r, a :: q => bif eqL tab fs (sbL θ p) a then chkN tab fs θ r q else false
  | _, _ => false) := by
  cases e_0 with
  | nil =>
    show (List.rec (motive := fun _ => Bool) true (fun x_1148 x_1149 _ => false) e_1) = _
    try simp only [iAddQ_eq, iMulQ_eq, iNegQ_eq, lenQ_eq, nthQ_eq, setQ_eq, appQ_eq, mapQ_eq, allQ_eq, anyQ_eq, dropQ_eq, takeQ_eq, revQ_eq, getDQ_eq, optLQ_eq, brecC]
    all_goals
      cases e_1 with
      | nil =>
        try dsimp only [cond_false, cond_true]
        all_goals rfl
      | cons y_1150 y_1151 =>
        try dsimp only [cond_false, cond_true]
        all_goals rfl
  | cons h_0 t_0 =>
    show (List.rec (motive := fun _ => Bool) false (fun a_1152 q_1153 _ => (Bool.rec (motive := fun _ => Bool) false (chkN tab fs θ t_0 q_1153) (eqL tab fs (sbL θ h_0) a_1152))) e_1) = _
    try simp only [iAddQ_eq, iMulQ_eq, iNegQ_eq, lenQ_eq, nthQ_eq, setQ_eq, appQ_eq, mapQ_eq, allQ_eq, anyQ_eq, dropQ_eq, takeQ_eq, revQ_eq, getDQ_eq, optLQ_eq, brecC]
    all_goals
      cases e_1 with
      | nil =>
        try dsimp only [cond_false, cond_true]
        all_goals rfl
      | cons y_1154 y_1155 =>
        try dsimp only [cond_false, cond_true]
        all_goals
          cases hq_3 : (eqL tab fs ((sbL θ h_0)) y_1154) with
          | false =>
            try dsimp only [cond_false, cond_true]
            all_goals rfl
          | true =>
            try dsimp only [cond_false, cond_true]
            all_goals rfl
noncomputable def hasP (tab : Tb) (fs : List Ln) (θ : Th) (p : PD) : List PD → Bool :=
  fun e_0 => List.rec (motive := fun _ => Bool) false (fun h_0 t_0 ih => (Bool.rec (motive := fun _ => Bool) (ih) true (Bool.rec (motive := fun _ => Bool) false (Bool.rec (motive := fun _ => Bool) false (chkN tab fs θ p.2.2 h_0.2.2) (eqN p.2.1 h_0.2.1)) (Nat.beq p.1 h_0.1)))) e_0 
theorem hasP_def (tab : Tb) (fs : List Ln) (θ : Th) (p : PD) (e_0 : List PD) : hasP tab fs θ p e_0 = (match e_0 with
  | [] => false
  | q :: r => bif (bif Nat.beq p.1 q.1 then (bif eqN p.2.1 q.2.1 then chkN tab fs θ p.2.2 q.2.2 else false) else false) then true else hasP tab fs θ p r) := by
  cases e_0 with
  | nil =>
    show false = _
    try simp only [iAddQ_eq, iMulQ_eq, iNegQ_eq, lenQ_eq, nthQ_eq, setQ_eq, appQ_eq, mapQ_eq, allQ_eq, anyQ_eq, dropQ_eq, takeQ_eq, revQ_eq, getDQ_eq, optLQ_eq, brecC]
    all_goals rfl
  | cons h_0 t_0 =>
    show (Bool.rec (motive := fun _ => Bool) (hasP tab fs θ p t_0) true (Bool.rec (motive := fun _ => Bool) false (Bool.rec (motive := fun _ => Bool) false (chkN tab fs θ p.2.2 h_0.2.2) (eqN p.2.1 h_0.2.1)) (Nat.beq p.1 h_0.1))) = _
    try simp only [iAddQ_eq, iMulQ_eq, iNegQ_eq, lenQ_eq, nthQ_eq, setQ_eq, appQ_eq, mapQ_eq, allQ_eq, anyQ_eq, dropQ_eq, takeQ_eq, revQ_eq, getDQ_eq, optLQ_eq, brecC]
    all_goals
      cases hq_1 : ((bif (Nat.beq p.1 h_0.1) then ((bif (eqN p.2.1 h_0.2.1) then (chkN tab fs θ p.2.2 h_0.2.2) else false)) else false)) with
      | false =>
        try dsimp only [cond_false, cond_true]
        all_goals rfl
      | true =>
        try dsimp only [cond_false, cond_true]
        all_goals rfl
noncomputable def chkP (tab : Tb) (fs : List Ln) (θ : Th) (a : List PD) : List PD → Bool :=
  fun e_0 => List.rec (motive := fun _ => Bool) true (fun h_0 t_0 ih => (Bool.rec (motive := fun _ => Bool) false (ih) (hasP tab fs θ h_0 a))) e_0 
theorem chkP_def (tab : Tb) (fs : List Ln) (θ : Th) (a : List PD) (e_0 : List PD) : chkP tab fs θ a e_0 = (match e_0 with
  | [] => true
  | p :: r => bif hasP tab fs θ p a then chkP tab fs θ a r else false) := by
  cases e_0 with
  | nil =>
    show true = _
    try simp only [iAddQ_eq, iMulQ_eq, iNegQ_eq, lenQ_eq, nthQ_eq, setQ_eq, appQ_eq, mapQ_eq, allQ_eq, anyQ_eq, dropQ_eq, takeQ_eq, revQ_eq, getDQ_eq, optLQ_eq, brecC]
    all_goals rfl
  | cons h_0 t_0 =>
    show (Bool.rec (motive := fun _ => Bool) false (chkP tab fs θ a t_0) (hasP tab fs θ h_0 a)) = _
    try simp only [iAddQ_eq, iMulQ_eq, iNegQ_eq, lenQ_eq, nthQ_eq, setQ_eq, appQ_eq, mapQ_eq, allQ_eq, anyQ_eq, dropQ_eq, takeQ_eq, revQ_eq, getDQ_eq, optLQ_eq, brecC]
    all_goals
      cases hq_1 : (hasP tab fs θ h_0 a) with
      | false =>
        try dsimp only [cond_false, cond_true]
        all_goals rfl
      | true =>
        try dsimp only [cond_false, cond_true]
        all_goals rfl
noncomputable def chkT (tab : Tb) (fs : List Ln) (θ : Th) : TbL → Bool :=
  fun e_0 => List.rec (motive := fun _ => Bool) true (fun h_0 t_0 ih => (Prod.rec (motive := fun _ => Bool) (fun s_1156 x_1157 => (Prod.rec (motive := fun _ => Bool) (fun lo_1158 hi_1159 => (Bool.rec (motive := fun _ => Bool) false (ih) (inF tab fs lo_1158 hi_1159 (θ s_1156)))) x_1157)) h_0)) e_0 
theorem chkT_def (tab : Tb) (fs : List Ln) (θ : Th) (e_0 : TbL) : chkT tab fs θ e_0 = (match e_0 with
  | [] => true
  | (s, lo, hi) :: r => bif inF tab fs lo hi (θ s) then chkT tab fs θ r else false) := by
  cases e_0 with
  | nil =>
    show true = _
    try simp only [iAddQ_eq, iMulQ_eq, iNegQ_eq, lenQ_eq, nthQ_eq, setQ_eq, appQ_eq, mapQ_eq, allQ_eq, anyQ_eq, dropQ_eq, takeQ_eq, revQ_eq, getDQ_eq, optLQ_eq, brecC]
    all_goals rfl
  | cons h_0 t_0 =>
    show (Prod.rec (motive := fun _ => Bool) (fun s_1160 x_1161 => (Prod.rec (motive := fun _ => Bool) (fun lo_1162 hi_1163 => (Bool.rec (motive := fun _ => Bool) false (chkT tab fs θ t_0) (inF tab fs lo_1162 hi_1163 (θ s_1160)))) x_1161)) h_0) = _
    try simp only [iAddQ_eq, iMulQ_eq, iNegQ_eq, lenQ_eq, nthQ_eq, setQ_eq, appQ_eq, mapQ_eq, allQ_eq, anyQ_eq, dropQ_eq, takeQ_eq, revQ_eq, getDQ_eq, optLQ_eq, brecC]
    all_goals
      cases h_0 with
      | mk y_1164 y_1165 =>
        try dsimp only [cond_false, cond_true]
        all_goals
          cases y_1165 with
          | mk y_1166 y_1167 =>
            try dsimp only [cond_false, cond_true]
            all_goals
              cases hq_3 : (inF tab fs y_1166 y_1167 ((θ y_1164))) with
              | false =>
                try dsimp only [cond_false, cond_true]
                all_goals rfl
              | true =>
                try dsimp only [cond_false, cond_true]
                all_goals rfl
noncomputable def chkF (tab : Tb) (fs : List Ln) (θ : Th) : List Ln → Bool :=
  fun e_0 => List.rec (motive := fun _ => Bool) true (fun h_0 t_0 ih => (Bool.rec (motive := fun _ => Bool) false (ih) (le0 tab fs (sbL θ h_0)))) e_0 
theorem chkF_def (tab : Tb) (fs : List Ln) (θ : Th) (e_0 : List Ln) : chkF tab fs θ e_0 = (match e_0 with
  | [] => true
  | f :: r => bif le0 tab fs (sbL θ f) then chkF tab fs θ r else false) := by
  cases e_0 with
  | nil =>
    show true = _
    try simp only [iAddQ_eq, iMulQ_eq, iNegQ_eq, lenQ_eq, nthQ_eq, setQ_eq, appQ_eq, mapQ_eq, allQ_eq, anyQ_eq, dropQ_eq, takeQ_eq, revQ_eq, getDQ_eq, optLQ_eq, brecC]
    all_goals rfl
  | cons h_0 t_0 =>
    show (Bool.rec (motive := fun _ => Bool) false (chkF tab fs θ t_0) (le0 tab fs (sbL θ h_0))) = _
    try simp only [iAddQ_eq, iMulQ_eq, iNegQ_eq, lenQ_eq, nthQ_eq, setQ_eq, appQ_eq, mapQ_eq, allQ_eq, anyQ_eq, dropQ_eq, takeQ_eq, revQ_eq, getDQ_eq, optLQ_eq, brecC]
    all_goals
      cases hq_1 : (le0 tab fs ((sbL θ h_0))) with
      | false =>
        try dsimp only [cond_false, cond_true]
        all_goals rfl
      | true =>
        try dsimp only [cond_false, cond_true]
        all_goals rfl
noncomputable def instP (tab : Tb) (fs : List Ln) (θ : Th) (P : Pt) (vs : List AV) (A : AH) (pr : List PD) : Bool :=
  (Bool.rec (motive := fun _ => Bool) false (Bool.rec (motive := fun _ => Bool) false (Bool.rec (motive := fun _ => Bool) false (Bool.rec (motive := fun _ => Bool) false (chkP tab fs θ pr P.2.2.2.2.2) (chkF tab fs θ P.2.2.1)) (chkT tab fs θ P.2.1)) (chkH tab fs θ P.2.2.2.2.1 A)) (chkVs tab fs θ P.2.2.2.1 vs))
theorem instP_def (tab : Tb) (fs : List Ln) (θ : Th) (P : Pt) (vs : List AV) (A : AH) (pr : List PD) : instP tab fs θ P vs A pr = bif chkVs tab fs θ P.2.2.2.1 vs then (bif chkH tab fs θ P.2.2.2.2.1 A then (bif chkT tab fs θ P.2.1 then (bif chkF tab fs θ P.2.2.1 then chkP tab fs θ pr P.2.2.2.2.2 else false) else false) else false) else false := by
  show (Bool.rec (motive := fun _ => Bool) false (Bool.rec (motive := fun _ => Bool) false (Bool.rec (motive := fun _ => Bool) false (Bool.rec (motive := fun _ => Bool) false (chkP tab fs θ pr P.2.2.2.2.2) (chkF tab fs θ P.2.2.1)) (chkT tab fs θ P.2.1)) (chkH tab fs θ P.2.2.2.2.1 A)) (chkVs tab fs θ P.2.2.2.1 vs)) = _
  try simp only [iAddQ_eq, iMulQ_eq, iNegQ_eq, lenQ_eq, nthQ_eq, setQ_eq, appQ_eq, mapQ_eq, allQ_eq, anyQ_eq, dropQ_eq, takeQ_eq, revQ_eq, getDQ_eq, optLQ_eq, brecC]
  all_goals
    cases hq_1 : (chkVs tab fs θ P.2.2.2.1 vs) with
    | false =>
      try dsimp only [cond_false, cond_true]
      all_goals rfl
    | true =>
      try dsimp only [cond_false, cond_true]
      all_goals
        cases hq_2 : (chkH tab fs θ P.2.2.2.2.1 A) with
        | false =>
          try dsimp only [cond_false, cond_true]
          all_goals rfl
        | true =>
          try dsimp only [cond_false, cond_true]
          all_goals
            cases hq_3 : (chkT tab fs θ P.2.1) with
            | false =>
              try dsimp only [cond_false, cond_true]
              all_goals rfl
            | true =>
              try dsimp only [cond_false, cond_true]
              all_goals
                cases hq_4 : (chkF tab fs θ P.2.2.1) with
                | false =>
                  try dsimp only [cond_false, cond_true]
                  all_goals rfl
                | true =>
                  try dsimp only [cond_false, cond_true]
                  all_goals rfl
noncomputable def thOf (tab : Tb) (fs : List Ln) (P : Pt) (vs : List AV) (A : AH) (pr : List PD) : Un :=
  (uniP tab fs pr (uniH (uniVs un0 P.2.2.2.1 vs) P.2.2.2.2.1 A) P.2.2.2.2.2)
theorem thOf_def (tab : Tb) (fs : List Ln) (P : Pt) (vs : List AV) (A : AH) (pr : List PD) : thOf tab fs P vs A pr = uniP tab fs pr (uniH (uniVs un0 P.2.2.2.1 vs) P.2.2.2.2.1 A) P.2.2.2.2.2 := by
  show (uniP tab fs pr (uniH (uniVs un0 P.2.2.2.1 vs) P.2.2.2.2.1 A) P.2.2.2.2.2) = _
  all_goals rfl
section PAT
variable {ρ : Nat → Int} {tab : Tb} {fs : List Ln} {θ : Th}
noncomputable abbrev thE (ρ : Nat → Int) (θ : Th) : Nat → Int := fun s => ev ρ (θ s)
theorem eqLθ (ht : tOk ρ tab) (hf : fOk ρ fs) {e e' : Ln} (h : eqL tab fs (sbL θ e) e' = true) : ev (thE ρ θ) e = ev ρ e' := by
  rw [← eqL_ok ht hf h, ev_sb]
theorem chkV_ok (ht : tOk ρ tab) (hf : fOk ρ fs) {v : Value} {p a : AV} (ha : vrel ρ v a) (h : chkV tab fs θ p a = true) : vrel (thE ρ θ) v p := by
  rw [chkV_def] at h
  split at h
  · rename_i b e b' e'
    cases hb : lnB b b' with
    | false => rw [hb] at h; cases h
    | true =>
      rw [hb] at h
      have := lnB_eq hb
      subst this
      cases b with
      | false => obtain ⟨x, e1, e2⟩ := ha; exact ⟨x, e1, e2.trans (eqLθ ht hf h).symm⟩
      | true => obtain ⟨x, e1, e2⟩ := ha; exact ⟨x, e1, e2.trans (eqLθ ht hf h).symm⟩
  · rename_i i j
    have := Nat.eq_of_beq_eq_true h
    subst this
    exact ha
  · exact ha
  · cases h
theorem chkVs_ok (ht : tOk ρ tab) (hf : fOk ρ fs) {vs : List Value} {ps as : List AV} (ha : rel2 (vrel ρ) vs as) (h : chkVs tab fs θ ps as = true) : rel2 (vrel (thE ρ θ)) vs ps := by
  induction ps generalizing vs as with
  | nil =>
    cases as with
    | nil => rw [rel2_nil ha]; exact trivial
    | cons a r => cases h
  | cons p r ih =>
    cases as with
    | nil => cases h
    | cons a q =>
      rw [chkVs_def] at h
      try dsimp only at h
      cases hc : chkV tab fs θ p a with
      | false => rw [hc] at h; cases h
      | true =>
        rw [hc] at h
        obtain ⟨v, vs', e, h1, h2⟩ := rel2_cons ha
        subst e
        exact ⟨chkV_ok ht hf h1 hc, ih h2 h⟩
theorem srel_zero {ρ : Nat → Int} {lo hi : Int} {r : List Sg} {l : List Int32} (h : srel ρ r l) : srel ρ (.inr (0, lo, hi) :: r) l := ⟨[], l, rfl, rfl, fun x hx => (by cases hx), h⟩
theorem srel_zero' {ρ : Nat → Int} {lo hi : Int} {r : List Sg} {l : List Int32} (h : srel ρ (.inr (0, lo, hi) :: r) l) : srel ρ r l := by
  obtain ⟨l1, l2, e1, e2, e3, e4⟩ := h
  have := List.length_eq_zero_iff.mp e2
  subst this
  subst e1
  exact e4
theorem srel_split {ρ : Nat → Int} {m k : Nat} {lo hi : Int} {r : List Sg} {l : List Int32} (h : srel ρ (.inr (m + k, lo, hi) :: r) l) : ∃ l1 l2, l = l1 ++ l2 ∧ l1.length = m ∧ (∀ x ∈ l1, lo ≤ x.toInt ∧ x.toInt ≤ hi) ∧ srel ρ (.inr (k, lo, hi) :: r) l2 := by
  obtain ⟨l1, l2, e1, e2, e3, e4⟩ := h
  subst e1
  refine ⟨l1.take m, l1.drop m ++ l2, by rw [← List.append_assoc, List.take_append_drop], by rw [List.length_take]; omega, fun x hx => e3 x (List.mem_of_mem_take hx), l1.drop m, l2, rfl, by rw [List.length_drop]; omega, fun x hx => e3 x (List.mem_of_mem_drop hx), e4⟩
theorem srel_join {ρ : Nat → Int} {m k : Nat} {lo hi : Int} {r : List Sg} {l1 l2 : List Int32} (h1 : l1.length = m) (h2 : ∀ x ∈ l1, lo ≤ x.toInt ∧ x.toInt ≤ hi) (h : srel ρ (.inr (k, lo, hi) :: r) l2) : srel ρ (.inr (m + k, lo, hi) :: r) (l1 ++ l2) := by
  obtain ⟨l3, l4, e1, e2, e3, e4⟩ := h
  subst e1
  refine ⟨l1 ++ l3, l4, by rw [List.append_assoc], by rw [List.length_append]; omega, fun x hx => ?_, e4⟩
  rcases List.mem_append.mp hx with q | q
  · exact h2 x q
  · exact e3 x q
theorem sgLe_ok (ht : tOk ρ tab) (hf : fOk ρ fs) : ∀ (n : Nat) (p a : List Sg) (l : List Int32), sgLe tab fs θ n p a = true → srel ρ a l → srel (thE ρ θ) p l := by
  intro n
  induction n with
  | zero => intro p a l h; cases h
  | succ n ih =>
    intro p a l h hl
    rw [sgLe_def] at h
    try dsimp only at h
    split at h
    · exact hl
    · rename_i e r e' q
      cases hc : eqL tab fs (sbL θ e) e' with
      | false => rw [hc] at h; cases h
      | true =>
        rw [hc] at h
        obtain ⟨x, l', e1, e2, h3⟩ := hl
        exact ⟨x, l', e1, e2.trans (eqLθ ht hf hc).symm, ih _ _ _ h h3⟩
    · rename_i e r m lo hi q
      split at h
      · exact ih _ _ _ h (srel_zero' hl)
      · rename_i m
        cases hc : eqI lo hi with
        | false => rw [hc] at h; cases h
        | true =>
          rw [hc] at h
          cases hd : eqL tab fs (sbL θ e) (kL lo) with
          | false => rw [hd] at h; cases h
          | true =>
            rw [hd] at h
            have := eqI_eq hc
            subst this
            rw [show Nat.succ m = 1 + m by omega] at hl
            obtain ⟨l1, l2, e1, e2, e3, e4⟩ := srel_split hl
            match l1, e2 with
            | [x], _ =>
              have e5 := e3 x List.mem_cons_self
              exact ⟨x, l2, e1, by rw [eqLθ ht hf hd, ev_k]; omega, ih _ _ _ h e4⟩
    · rename_i m lo hi r
      cases hc : Nat.beq m 0 with
      | false => rw [hc] at h; cases h
      | true =>
        rw [hc] at h
        have := Nat.eq_of_beq_eq_true hc
        subst this
        exact srel_zero (ih _ _ _ h hl)
    · rename_i m lo hi q
      cases hc : Nat.beq m 0 with
      | false => rw [hc] at h; cases h
      | true =>
        rw [hc] at h
        have := Nat.eq_of_beq_eq_true hc
        subst this
        exact ih _ _ _ h (srel_zero' hl)
    · rename_i m lo hi r e' q
      split at h
      · exact srel_zero (ih _ _ _ h hl)
      · rename_i m
        cases hc : inF tab fs lo hi e' with
        | false => rw [hc] at h; cases h
        | true =>
          rw [hc] at h
          obtain ⟨x, l', e1, e2, h3⟩ := hl
          have e5 := inF_ok ht hf hc
          subst e1
          rw [show Nat.succ m = 1 + m by omega]
          exact srel_join (l1 := [x]) rfl (fun y hy => by rw [List.mem_singleton.mp hy, e2]; exact e5) (ih _ _ _ h h3)
    · rename_i m lo hi r m' lo' hi' q
      cases hc : (bif Nat.beq m' 0 then true else bif Nat.beq m 0 then true else bif leI lo lo' then leI hi' hi else false) with
      | false => rw [hc] at h; cases h
      | true =>
        rw [hc] at h
        have fit : ∀ (k : Nat) (l1 : List Int32), l1.length = k → k ≤ m → k ≤ m' → (∀ x ∈ l1, lo' ≤ x.toInt ∧ x.toInt ≤ hi') → ∀ x ∈ l1, lo ≤ x.toInt ∧ x.toInt ≤ hi := by
          intro k l1 hk h1 h2 hx x hxm
          have hpos : 0 < l1.length := List.length_pos_of_mem hxm
          cases z1 : Nat.beq m' 0 with
          | true => have := Nat.eq_of_beq_eq_true z1; omega
          | false =>
            cases z2 : Nat.beq m 0 with
            | true => have := Nat.eq_of_beq_eq_true z2; omega
            | false =>
              rw [z1, z2] at hc
              simp only [cond_false] at hc
              cases z3 : leI lo lo' with
              | false => rw [z3] at hc; cases hc
              | true =>
                rw [z3] at hc
                have q1 := leI_le z3
                have q2 := leI_le hc
                have q3 := hx x hxm
                omega
        simp only [cond_true] at h
        cases hd : Nat.ble m m' with
        | true =>
          rw [hd] at h
          have hle := Nat.le_of_ble_eq_true hd
          simp only [cond_true] at h
          cases he : Nat.beq m m' with
          | true =>
            rw [he] at h
            have := Nat.eq_of_beq_eq_true he
            subst this
            obtain ⟨l1, l2, e1, e2, e3, e4⟩ := hl
            exact ⟨l1, l2, e1, e2, fit m l1 e2 (Nat.le_refl _) (Nat.le_refl _) e3, ih _ _ _ h e4⟩
          | false =>
            rw [he] at h
            have e0 : m' = m + Nat.sub m' m := by show m' = m + (m' - m); omega
            rw [e0] at hl
            obtain ⟨l1, l2, e1, e2, e3, e4⟩ := srel_split hl
            exact ⟨l1, l2, e1, e2, fit m l1 e2 (Nat.le_refl _) hle e3, ih _ _ _ h e4⟩
        | false =>
          rw [hd] at h
          have hlt : m' < m := Nat.lt_of_not_le fun q => by rw [Nat.ble_eq_true_of_le q] at hd; cases hd
          obtain ⟨l1, l2, e1, e2, e3, e4⟩ := hl
          subst e1
          have e0 : m = m' + Nat.sub m m' := by show m = m' + (m - m'); omega
          rw [e0]
          exact srel_join e2 (fit m' l1 e2 (by omega) (Nat.le_refl _) e3) (ih _ _ _ h e4)
    · cases h
theorem eqO_eq {a b : List (Option Nat)} (h : eqO a b = true) : a = b := by
  induction a generalizing b with
  | nil => cases b with
    | nil => rfl
    | cons q r => cases h
  | cons p r ih => cases b with
    | nil => cases p <;> cases h
    | cons q r' =>
      cases p with
      | none => cases q with
        | none => rw [ih h]
        | some j => cases h
      | some i => cases q with
        | none => cases h
        | some j =>
          rw [eqO_def] at h
          try dsimp only at h
          cases h1 : Nat.beq i j with
          | false => rw [h1] at h; cases h
          | true => rw [h1] at h; rw [Nat.eq_of_beq_eq_true h1, ih h]
theorem eqN_eq {a b : List Nat} (h : eqN a b = true) : a = b := by
  induction a generalizing b with
  | nil => cases b with
    | nil => rfl
    | cons q r => cases h
  | cons p r ih => cases b with
    | nil => cases h
    | cons q r' =>
      rw [eqN_def] at h
      try dsimp only at h
      cases h1 : Nat.beq p q with
      | false => rw [h1] at h; cases h
      | true => rw [h1] at h; rw [Nat.eq_of_beq_eq_true h1, ih h]
theorem chkC_ok (ht : tOk ρ tab) (hf : fOk ρ fs) {c : SC} {p a : AC} (ha : crel ρ c a) (h : chkC tab fs θ p a = true) : crel (thE ρ θ) c p := by
  rw [chkC_def] at h
  split at h
  · rename_i k l k' l'
    cases hb : Nat.beq k k' with
    | false => rw [hb] at h; cases h
    | true =>
      rw [hb] at h
      rw [Nat.eq_of_beq_eq_true hb]
      obtain ⟨f, e1, e2⟩ := ha
      exact ⟨f, e1, chkVs_ok ht hf e2 h⟩
  · rename_i k l k' l'
    cases hb : Nat.beq k k' with
    | false => rw [hb] at h; cases h
    | true =>
      rw [hb] at h
      have hkk := Nat.eq_of_beq_eq_true hb
      subst hkk
      have ha' : arel ρ k l' c := ha
      show arel (thE ρ θ) k l c
      unfold arel at ha' ⊢
      cases hk : Nat.blt k 100 with
      | true =>
        rw [hk] at h
        simp only [cond_true] at h
        rw [if_pos (blt_iff.mp hk)] at ha' ⊢
        obtain ⟨f, e1, e2⟩ := ha'
        exact ⟨f, e1, sgLe_ok ht hf _ _ _ _ h e2⟩
      | false =>
        rw [hk] at h
        have hn : ¬ k < 100 := Nat.not_lt.mpr (blt_f hk)
        rw [if_neg hn] at ha' ⊢
        obtain ⟨f, e1, e2⟩ := ha'
        refine ⟨f, e1, ?_⟩
        simp only [cond_true, cond_false] at h
        rw [conLe_def] at h
        split at h
        · exact Eq.trans e2 (eqLθ ht hf h).symm
        · cases h
  · rename_i k l k' l'
    cases hb : Nat.beq k k' with
    | false => rw [hb] at h; cases h
    | true =>
      rw [hb] at h
      rw [Nat.eq_of_beq_eq_true hb]
      obtain ⟨f, e1, e2⟩ := ha
      simp only [cond_true] at h
      cases hc : Nat.beq l l' with
      | true => exact ⟨f, e1, by rw [Nat.eq_of_beq_eq_true hc]; exact e2⟩
      | false =>
        rw [hc, cond_false] at h
        cases hd : Nat.blt l zB with
        | false => rw [hd] at h; cases h
        | true =>
          rw [hd, cond_true] at h
          have e3 : l' = Nat.add zB l := Nat.eq_of_beq_eq_true h
          have hd' := blt_iff.mp hd
          refine ⟨f, e1, ?_, fun h2 => by rw [hd] at h2; cases h2⟩
          rw [e2.1, e3, jLen_add hd', jLen_lt hd]
  · rename_i k l k' l'
    cases hb : Nat.beq k k' with
    | false => rw [hb] at h; cases h
    | true =>
      rw [hb] at h
      rw [Nat.eq_of_beq_eq_true hb, eqO_eq h]
      exact ha
  · cases h
theorem chkH_ok (ht : tOk ρ tab) (hf : fOk ρ fs) {σ : SH} {ps as : AH} (ha : rel2 (crel ρ) σ as) (h : chkH tab fs θ ps as = true) : rel2 (crel (thE ρ θ)) σ ps := by
  induction ps generalizing σ as with
  | nil =>
    cases as with
    | nil => rw [rel2_nil ha]; exact trivial
    | cons a r => cases h
  | cons p r ih =>
    cases as with
    | nil => cases h
    | cons a q =>
      rw [chkH_def] at h
      try dsimp only at h
      cases hc : chkC tab fs θ p a with
      | false => rw [hc] at h; cases h
      | true =>
        rw [hc] at h
        obtain ⟨v, vs', e, h1, h2⟩ := rel2_cons ha
        subst e
        exact ⟨chkC_ok ht hf h1 hc, ih h2 h⟩
theorem chkN_ok (ht : tOk ρ tab) (hf : fOk ρ fs) {ps as : List Ln} (h : chkN tab fs θ ps as = true) : ps.map (ev (thE ρ θ)) = as.map (ev ρ) := by
  induction ps generalizing as with
  | nil =>
    cases as with
    | nil => rfl
    | cons a r => cases h
  | cons p r ih =>
    cases as with
    | nil => cases h
    | cons a q =>
      rw [chkN_def] at h
      try dsimp only at h
      cases h1 : eqL tab fs (sbL θ p) a with
      | false => rw [h1] at h; cases h
      | true =>
        rw [h1] at h
        rw [List.map_cons, List.map_cons, ih h, eqLθ ht hf h1]
theorem hasP_mem (ht : tOk ρ tab) (hf : fOk ρ fs) {p : PD} {a : List PD} (h : hasP tab fs θ p a = true) : ∃ q ∈ a, p.1 = q.1 ∧ p.2.1 = q.2.1 ∧ p.2.2.map (ev (thE ρ θ)) = q.2.2.map (ev ρ) := by
  induction a with
  | nil => cases h
  | cons q r ih =>
    rw [hasP_def] at h
    try dsimp only at h
    cases h1 : (bif Nat.beq p.1 q.1 then (bif eqN p.2.1 q.2.1 then chkN tab fs θ p.2.2 q.2.2 else false) else false) with
    | false =>
      rw [h1] at h
      obtain ⟨q', q1, q2⟩ := ih h
      exact ⟨q', List.mem_cons_of_mem _ q1, q2⟩
    | true =>
      cases h2 : Nat.beq p.1 q.1 with
      | false => rw [h2] at h1; cases h1
      | true =>
        rw [h2] at h1
        cases h3 : eqN p.2.1 q.2.1 with
        | false => rw [h3] at h1; cases h1
        | true =>
          rw [h3] at h1
          exact ⟨q, List.mem_cons_self, Nat.eq_of_beq_eq_true h2, eqN_eq h3, chkN_ok ht hf h1⟩
theorem chkP_ok (ht : tOk ρ tab) (hf : fOk ρ fs) {a ps : List PD} (h : chkP tab fs θ a ps = true) : ∀ p ∈ ps, ∃ q ∈ a, p.1 = q.1 ∧ p.2.1 = q.2.1 ∧ p.2.2.map (ev (thE ρ θ)) = q.2.2.map (ev ρ) := by
  induction ps with
  | nil => intro p hp; cases hp
  | cons q r ih =>
    rw [chkP_def] at h
    try dsimp only at h
    cases h1 : hasP tab fs θ q a with
    | false => rw [h1] at h; cases h
    | true =>
      rw [h1] at h
      intro p hp
      rcases List.mem_cons.mp hp with rfl | hp
      · exact hasP_mem ht hf h1
      · exact ih h p hp
theorem chkT_ok (ht : tOk ρ tab) (hf : fOk ρ fs) {ps : TbL} (h : chkT tab fs θ ps = true) : tOkL (thE ρ θ) ps := by
  induction ps with
  | nil => intro p hp; cases hp
  | cons q r ih =>
    obtain ⟨s, lo, hi⟩ := q
    rw [chkT_def] at h
    try dsimp only at h
    cases h1 : inF tab fs lo hi (θ s) with
    | false => rw [h1] at h; cases h
    | true =>
      rw [h1] at h
      intro p hp
      rcases List.mem_cons.mp hp with rfl | hp
      · exact inF_ok ht hf h1
      · exact ih h p hp
theorem chkF_ok (ht : tOk ρ tab) (hf : fOk ρ fs) {ps : List Ln} (h : chkF tab fs θ ps = true) : fOk (thE ρ θ) ps := by
  induction ps with
  | nil => intro p hp; cases hp
  | cons q r ih =>
    rw [chkF_def] at h
    try dsimp only at h
    cases h1 : le0 tab fs (sbL θ q) with
    | false => rw [h1] at h; cases h
    | true =>
      rw [h1] at h
      intro p hp
      rcases List.mem_cons.mp hp with rfl | hp
      · have := le0_ok ht hf h1
        rw [ev_sb] at this
        exact this
      · exact ih h p hp
theorem instP_ok {PP : Nat → List (List Int32) → List Int → Prop} {P : Pt} {vs : List AV} {A : AH} {pr : List PD} {cvs : List Value} {σ : SH} (ht : tOk ρ tab) (hf : fOk ρ fs) (hv : rel2 (vrel ρ) cvs vs) (hA : rel2 (crel ρ) σ A) (hp : prOk PP ρ σ pr) (h : instP tab fs θ P vs A pr = true) : PtOk PP (thE ρ θ) P cvs σ := by
  rw [instP_def] at h
  cases h1 : chkVs tab fs θ P.2.2.2.1 vs with
  | false => rw [h1] at h; cases h
  | true =>
    rw [h1] at h
    cases h2 : chkH tab fs θ P.2.2.2.2.1 A with
    | false => rw [h2] at h; cases h
    | true =>
      rw [h2] at h
      cases h3 : chkT tab fs θ P.2.1 with
      | false => rw [h3] at h; cases h
      | true =>
        rw [h3] at h
        cases h4 : chkF tab fs θ P.2.2.1 with
        | false => rw [h4] at h; cases h
        | true =>
          rw [h4] at h
          exact ⟨chkT_ok ht hf h3, chkF_ok ht hf h4, chkVs_ok ht hf hv h1, chkH_ok ht hf hA h2, fun p hq => (by
            obtain ⟨q, q1, q2, q3, q4⟩ := chkP_ok ht hf h p hq
            rw [q2, q3, q4]
            exact hp q q1)⟩
end PAT
-- which symbols a pattern speaks of
noncomputable def scV (n : Nat) (a : AV) : Bool := match a with
  | .inl (_, e) => scL n e
  | .inr (.inr (p, q)) => bif scL n p then scL n q else false
  | _ => true
noncomputable def scS (n : Nat) (s : Sg) : Bool := match s with
  | .inl e => scL n e
  | _ => true
noncomputable def scC (n : Nat) (c : AC) : Bool := match c with
  | .inl (_, as) => as.all (scV n)
  | .inr (_, .inl s) => s.all (scS n)
  | _ => true
noncomputable def scP (P : Pt) : Bool := P.2.1.all (fun q => Nat.blt q.1 P.1) && (P.2.2.1.all (scL P.1) && (P.2.2.2.1.all (scV P.1) && (P.2.2.2.2.1.all (scC P.1) && P.2.2.2.2.2.all (fun p => p.2.2.all (scL P.1)))))
section SC
variable {n : Nat} {ρ ρ' : Nat → Int}
theorem scV_ok (ha : agr2 n ρ ρ') {v : Value} {a : AV} (hs : scV n a = true) (h : vrel ρ v a) : vrel ρ' v a := by
  match a, h with
  | .inl (false, e), ⟨x, e1, e2⟩ => exact ⟨x, e1, e2.trans (scL_ev ha hs).symm⟩
  | .inl (true, e), ⟨x, e1, e2⟩ => exact ⟨x, e1, e2.trans (scL_ev ha hs).symm⟩
  | .inr (.inl (some i)), e1 => exact e1
  | .inr (.inl none), e1 => exact e1
  | .inr (.inr (p, q)), e1 =>
    have hs' : (bif scL n p then scL n q else false) = true := hs
    cases h1 : scL n p with
    | false => rw [h1] at hs'; cases hs'
    | true =>
      rw [h1] at hs'
      show v = .int (cmpZ (ev ρ' p) (ev ρ' q))
      rw [scL_ev ha h1, scL_ev ha hs']
      exact e1
theorem rel2_all {α β : Type} {R R' : α → β → Prop} {f : β → Bool} (hi : ∀ a b, f b = true → R a b → R' a b) {l : List α} {r : List β} (hr : r.all f = true) (h : rel2 R l r) : rel2 R' l r := by
  induction r generalizing l with
  | nil => rw [rel2_nil h]; exact trivial
  | cons b r ih =>
    obtain ⟨a, l', e, h1, h2⟩ := rel2_cons h
    subst e
    rw [List.all_cons, Bool.and_eq_true] at hr
    exact ⟨hi a b hr.1 h1, ih hr.2 h2⟩
theorem scS_ok (ha : agr2 n ρ ρ') {s : List Sg} {l : List Int32} (hs : s.all (scS n) = true) (h : srel ρ s l) : srel ρ' s l := by
  induction s generalizing l with
  | nil => exact h
  | cons q r ih =>
    rw [List.all_cons, Bool.and_eq_true] at hs
    match q, h, hs with
    | .inl e, ⟨x, l', e1, e2, h2⟩, hs => exact ⟨x, l', e1, e2.trans (scL_ev ha hs.1).symm, ih hs.2 h2⟩
    | .inr (m, lo, hi), ⟨l1, l2, e1, e2, e3, h2⟩, hs => exact ⟨l1, l2, e1, e2, e3, ih hs.2 h2⟩
theorem scC_ok (ha : agr2 n ρ ρ') {c : SC} {a : AC} (hs : scC n a = true) (h : crel ρ c a) : crel ρ' c a := by
  match a, h with
  | .inl (ci, as), ⟨fs, e, h'⟩ => exact ⟨fs, e, rel2_all (f := scV n) (R' := vrel ρ') (fun _ _ q r => scV_ok ha q r) hs h'⟩
  | .inr (k, .inl s), h =>
    have h' : arel ρ k s c := h
    show arel ρ' k s c
    unfold arel at h' ⊢
    split at h'
    · rename_i hk
      rw [if_pos hk]
      obtain ⟨l, e, h2⟩ := h'
      exact ⟨l, e, scS_ok ha hs h2⟩
    · rename_i hk
      rw [if_neg hk]
      obtain ⟨l, e, h2⟩ := h'
      refine ⟨l, e, ?_⟩
      match s, hs, h2 with
      | [.inl e], hs, h2 =>
        have hs' : ([Sum.inl e] : List Sg).all (scS n) = true := hs
        simp only [List.all_cons, List.all_nil, Bool.and_true] at hs'
        exact Eq.trans h2 (scL_ev ha hs').symm
  | .inr (k, .inr (.inl m)), ⟨l, e, h'⟩ => exact ⟨l, e, h'⟩
  | .inr (k, .inr (.inr q)), e => exact e
end SC
theorem prOk_agr {PP : Nat → List (List Int32) → List Int → Prop} {n : Nat} {ρ ρ' : Nat → Int} {σ : SH} {pr : List PD} (ha : agr2 n ρ ρ') (hs : pr.all (fun p => p.2.2.all (scL n)) = true) (h : prOk PP ρ σ pr) : prOk PP ρ' σ pr := fun p hp => by
  have e : p.2.2.map (ev ρ') = p.2.2.map (ev ρ) := List.map_congr_left fun e he => scL_ev ha (List.all_eq_true.mp (List.all_eq_true.mp hs p hp) e he)
  rw [e]
  exact h p hp
theorem PtOk_agr {PP : Nat → List (List Int32) → List Int → Prop} {P : Pt} {ρ ρ' : Nat → Int} {vs : List Value} {σ : SH} (hs : scP P = true) (ha : agr2 P.1 ρ ρ') (h : PtOk PP ρ P vs σ) : PtOk PP ρ' P vs σ := by
  unfold scP at hs
  simp only [Bool.and_eq_true] at hs
  obtain ⟨s1, s2, s3, s4, s5⟩ := hs
  obtain ⟨h1, h2, h3, h4, h5⟩ := h
  refine ⟨fun q hq => ?_, fun f hf => ?_, rel2_all (f := scV P.1) (R' := vrel ρ') (fun _ _ q r => scV_ok ha q r) s3 h3, rel2_all (f := scC P.1) (R' := crel ρ') (fun _ _ q r => scC_ok ha q r) s4 h4, prOk_agr ha s5 h5⟩
  · rw [ha q.1 (blt_iff.mp (List.all_eq_true.mp s1 q hq))]
    exact h1 q hq
  · rw [scL_ev ha (List.all_eq_true.mp s2 f hf)]
    exact h2 f hf
