/-! ===== patterns: what is known at a place, in symbols of its own ===== -/
abbrev Pt : Type := Nat × TbL × List Ln × List AV × AH × List PD
noncomputable def PtOk (PP : Nat → List (List Int32) → List Int → Prop) (ρ : Nat → Int) (P : Pt) (vs : List Value) (σ : SH) : Prop :=
  tOkL ρ P.2.1 ∧ fOk ρ P.2.2.1 ∧ rel2 (vrel ρ) vs P.2.2.2.1 ∧ rel2 (crel ρ) σ P.2.2.2.2.1 ∧ prOk PP ρ σ P.2.2.2.2.2
-- the symbols' meaning, found by looking (what is found is checked below)
abbrev Un : Type := Nat × List (Nat × Ln)
noncomputable def un0 : Un := (0, [])
noncomputable def thHas (s : Nat) (θ : Un) : Bool :=
  (Nat.beq (Nat.land (Nat.shiftRight θ.1 s) (nat_lit 1)) (nat_lit 1))
theorem thHas_def (s : Nat) (θ : Un) : thHas s θ = Nat.beq (Nat.land (Nat.shiftRight θ.1 s) 1) 1 := by
  show (Nat.beq (Nat.land (Nat.shiftRight θ.1 s) (nat_lit 1)) (nat_lit 1)) = _
  all_goals rfl
noncomputable def insU (s : Nat) (e : Ln) : List (Nat × Ln) → List (Nat × Ln) :=
  fun e_0 => List.rec (motive := fun _ => List (Nat × Ln)) [(s, e)] (fun h_0 t_0 ih => (Prod.rec (motive := fun _ => List (Nat × Ln)) (fun t_931 x_932 => (Bool.rec (motive := fun _ => List (Nat × Ln)) ((t_931, x_932) :: (ih)) ((s, e) :: ((t_931, x_932) :: t_0)) (Nat.ble t_931 s))) h_0)) e_0 
theorem insU_def (s : Nat) (e : Ln) (e_0 : List (Nat × Ln)) : insU s e e_0 = (match e_0 with
  | [] => [(s, e)]
  | (t, x) :: r => bif Nat.ble t s then (s, e) :: (t, x) :: r else (t, x) :: insU s e r) := by
  cases e_0 with
  | nil =>
    show [(s, e)] = _
    try simp only [iAddQ_eq, iMulQ_eq, iNegQ_eq, lenQ_eq, nthQ_eq, setQ_eq, appQ_eq, mapQ_eq, allQ_eq, anyQ_eq, dropQ_eq, takeQ_eq, revQ_eq, getDQ_eq, optLQ_eq, brecC]
    all_goals rfl
  | cons h_0 t_0 =>
    show (Prod.rec (motive := fun _ => List (Nat × Ln)) (fun t_933 x_934 => (Bool.rec (motive := fun _ => List (Nat × Ln)) ((t_933, x_934) :: (insU s e t_0)) ((s, e) :: ((t_933, x_934) :: t_0)) (Nat.ble t_933 s))) h_0) = _
    try simp only [iAddQ_eq, iMulQ_eq, iNegQ_eq, lenQ_eq, nthQ_eq, setQ_eq, appQ_eq, mapQ_eq, allQ_eq, anyQ_eq, dropQ_eq, takeQ_eq, revQ_eq, getDQ_eq, optLQ_eq, brecC]
    all_goals
      cases h_0 with
      | mk y_935 y_936 =>
        try dsimp only [cond_false, cond_true]
        all_goals
          cases hq_2 : (Nat.ble y_935 s) with
          | false =>
            try dsimp only [cond_false, cond_true]
            all_goals rfl
          | true =>
            try dsimp only [cond_false, cond_true]
            all_goals rfl
noncomputable def uniL (θ : Un) (p a : Ln) : Un :=
  (List.rec (motive := fun _ => Un) θ (fun x_937 x_938 _ => (Prod.rec (motive := fun _ => Un) (fun s_939 k_940 => (List.rec (motive := fun _ => Un) (Bool.rec (motive := fun _ => Un) (Bool.rec (motive := fun _ => Un) θ ((Nat.lor θ.1 (Nat.shiftLeft (nat_lit 1) s_939)), (insU s_939 (Bool.rec (motive := fun _ => _) (pluL a (iNegQ p.1)) a (isZ p.1)) θ.2)) (eqI k_940 (.ofNat (nat_lit 1)))) θ (thHas s_939 θ)) (fun x_941 x_942 _ => θ) x_938)) x_937)) p.2)
theorem uniL_def (θ : Un) (p a : Ln) : uniL θ p a = (match p.2 with
  | [(s, k)] => bif thHas s θ then θ else bif eqI k 1 then (Nat.lor θ.1 (Nat.shiftLeft 1 s), insU s (bif isZ p.1 then a else pluL a (Int.neg p.1)) θ.2) else θ
  | _ => θ) := by
  show (List.rec (motive := fun _ => Un) θ (fun x_937 x_938 _ => (Prod.rec (motive := fun _ => Un) (fun s_939 k_940 => (List.rec (motive := fun _ => Un) (Bool.rec (motive := fun _ => Un) (Bool.rec (motive := fun _ => Un) θ ((Nat.lor θ.1 (Nat.shiftLeft (nat_lit 1) s_939)), (insU s_939 (Bool.rec (motive := fun _ => _) (pluL a (iNegQ p.1)) a (isZ p.1)) θ.2)) (eqI k_940 (.ofNat (nat_lit 1)))) θ (thHas s_939 θ)) (fun x_941 x_942 _ => θ) x_938)) x_937)) p.2) = _
  try simp only [iAddQ_eq, iMulQ_eq, iNegQ_eq, lenQ_eq, nthQ_eq, setQ_eq, appQ_eq, mapQ_eq, allQ_eq, anyQ_eq, dropQ_eq, takeQ_eq, revQ_eq, getDQ_eq, optLQ_eq, brecC]
  all_goals
    cases hq_1 : p.2 with
    | nil =>
      try dsimp only [cond_false, cond_true]
      all_goals rfl
    | cons y_943 y_944 =>
      try dsimp only [cond_false, cond_true]
      all_goals
        cases y_943 with
        | mk y_945 y_946 =>
          try dsimp only [cond_false, cond_true]
          all_goals
            cases y_944 with
            | nil =>
              try dsimp only [cond_false, cond_true]
              all_goals
                cases hq_4 : (thHas y_945 θ) with
                | false =>
                  try dsimp only [cond_false, cond_true]
                  all_goals
                    cases hq_5 : (eqI y_946 1) with
                    | false =>
                      try dsimp only [cond_false, cond_true]
                      all_goals rfl
                    | true =>
                      try dsimp only [cond_false, cond_true]
                      all_goals rfl
                | true =>
                  try dsimp only [cond_false, cond_true]
                  all_goals rfl
            | cons y_947 y_948 =>
              try dsimp only [cond_false, cond_true]
              all_goals rfl
noncomputable def thLk (s : Nat) : List (Nat × Ln) → Ln :=
  fun e_0 => List.rec (motive := fun _ => Ln) (sL s) (fun h_0 t_0 ih => (Prod.rec (motive := fun _ => Ln) (fun t_949 e_950 => (Bool.rec (motive := fun _ => Ln) (ih) e_950 (Nat.beq s t_949))) h_0)) e_0 
theorem thLk_def (s : Nat) (e_0 : List (Nat × Ln)) : thLk s e_0 = (match e_0 with
  | [] => sL s
  | (t, e) :: r => bif Nat.beq s t then e else thLk s r) := by
  cases e_0 with
  | nil =>
    show (sL s) = _
    try simp only [iAddQ_eq, iMulQ_eq, iNegQ_eq, lenQ_eq, nthQ_eq, setQ_eq, appQ_eq, mapQ_eq, allQ_eq, anyQ_eq, dropQ_eq, takeQ_eq, revQ_eq, getDQ_eq, optLQ_eq, brecC]
    all_goals rfl
  | cons h_0 t_0 =>
    show (Prod.rec (motive := fun _ => Ln) (fun t_951 e_952 => (Bool.rec (motive := fun _ => Ln) (thLk s t_0) e_952 (Nat.beq s t_951))) h_0) = _
    try simp only [iAddQ_eq, iMulQ_eq, iNegQ_eq, lenQ_eq, nthQ_eq, setQ_eq, appQ_eq, mapQ_eq, allQ_eq, anyQ_eq, dropQ_eq, takeQ_eq, revQ_eq, getDQ_eq, optLQ_eq, brecC]
    all_goals
      cases h_0 with
      | mk y_953 y_954 =>
        try dsimp only [cond_false, cond_true]
        all_goals
          cases hq_2 : (Nat.beq s y_953) with
          | false =>
            try dsimp only [cond_false, cond_true]
            all_goals rfl
          | true =>
            try dsimp only [cond_false, cond_true]
            all_goals rfl
/-- a list, the greatest first, as a function -/
noncomputable def balF  : Nat → List (Nat × Ln) → Nat × (Nat → Ln) × List (Nat × Ln) :=
  fun e_0 e_1 => Nat.rec (motive := fun _ => List (Nat × Ln) → Nat × (Nat → Ln) × List (Nat × Ln)) (fun e_1 => (List.rec (motive := fun _ => Nat × (Nat → Ln) × List (Nat × Ln)) ((nat_lit 0), (fun _ => (kL (.ofNat (nat_lit 0)))), []) (fun x_955 r_956 _ => (Prod.rec (motive := fun _ => Nat × (Nat → Ln) × List (Nat × Ln)) (fun s_957 e_958 => (s_957, (fun _ => e_958), r_956)) x_955)) e_1)) (fun t_0 ih e_1 => (Prod.rec (motive := fun _ => Nat × (Nat → Ln) × List (Nat × Ln)) (fun m_959 x_960 => (Prod.rec (motive := fun _ => Nat × (Nat → Ln) × List (Nat × Ln)) (fun f_961 x_962 => (List.rec (motive := fun _ => Nat × (Nat → Ln) × List (Nat × Ln)) (m_959, f_961, []) (fun q_963 r_964 _ => (Prod.rec (motive := fun _ => Nat × (Nat → Ln) × List (Nat × Ln)) (fun m2_965 x_966 => (Prod.rec (motive := fun _ => Nat × (Nat → Ln) × List (Nat × Ln)) (fun f2_967 r2_968 => (m2_965, (fun t => (Bool.rec (motive := fun _ => _) (f2_967 t) (f_961 t) (Nat.ble m_959 t))), r2_968)) x_966)) (ih (q_963 :: r_964)))) x_962)) x_960)) (ih e_1))) e_0 e_1
theorem balF_def  (e_0 : Nat) (e_1 : List (Nat × Ln)) : balF  e_0 e_1 = (match e_0, e_1 with
  | 0, [] => (0, fun _ => kL 0, [])
  | 0, (s, e) :: r => (s, fun _ => e, r)
  | n + 1, l => match balF n l with
    | (m, f, []) => (m, f, [])
    | (m, f, q :: r) => match balF n (q :: r) with
      | (m2, f2, r2) => (m2, fun t => bif Nat.ble m t then f t else f2 t, r2)) := by
  cases e_0 with
  | zero =>
    show (List.rec (motive := fun _ => Nat × (Nat → Ln) × List (Nat × Ln)) ((nat_lit 0), (fun _ => (kL (.ofNat (nat_lit 0)))), []) (fun x_969 r_970 _ => (Prod.rec (motive := fun _ => Nat × (Nat → Ln) × List (Nat × Ln)) (fun s_971 e_972 => (s_971, (fun _ => e_972), r_970)) x_969)) e_1) = _
    try simp only [iAddQ_eq, iMulQ_eq, iNegQ_eq, lenQ_eq, nthQ_eq, setQ_eq, appQ_eq, mapQ_eq, allQ_eq, anyQ_eq, dropQ_eq, takeQ_eq, revQ_eq, getDQ_eq, optLQ_eq, brecC]
    all_goals
      cases e_1 with
      | nil =>
        try dsimp only [cond_false, cond_true]
        all_goals rfl
      | cons y_973 y_974 =>
        try dsimp only [cond_false, cond_true]
        all_goals
          cases y_973 with
          | mk y_975 y_976 =>
            try dsimp only [cond_false, cond_true]
            all_goals rfl
  | succ t_0 =>
    show (Prod.rec (motive := fun _ => Nat × (Nat → Ln) × List (Nat × Ln)) (fun m_977 x_978 => (Prod.rec (motive := fun _ => Nat × (Nat → Ln) × List (Nat × Ln)) (fun f_979 x_980 => (List.rec (motive := fun _ => Nat × (Nat → Ln) × List (Nat × Ln)) (m_977, f_979, []) (fun q_981 r_982 _ => (Prod.rec (motive := fun _ => Nat × (Nat → Ln) × List (Nat × Ln)) (fun m2_983 x_984 => (Prod.rec (motive := fun _ => Nat × (Nat → Ln) × List (Nat × Ln)) (fun f2_985 r2_986 => (m2_983, (fun t => (Bool.rec (motive := fun _ => _) (f2_985 t) (f_979 t) (Nat.ble m_977 t))), r2_986)) x_984)) (balF t_0 (q_981 :: r_982)))) x_980)) x_978)) (balF t_0 e_1)) = _
    try simp only [iAddQ_eq, iMulQ_eq, iNegQ_eq, lenQ_eq, nthQ_eq, setQ_eq, appQ_eq, mapQ_eq, allQ_eq, anyQ_eq, dropQ_eq, takeQ_eq, revQ_eq, getDQ_eq, optLQ_eq, brecC]
    all_goals
      cases hq_3 : (balF t_0 e_1) with
      | mk y_987 y_988 =>
        try dsimp only [cond_false, cond_true]
        all_goals
          cases y_988 with
          | mk y_989 y_990 =>
            try dsimp only [cond_false, cond_true]
            all_goals
              cases y_990 with
              | nil =>
                try dsimp only [cond_false, cond_true]
                all_goals rfl
              | cons y_991 y_992 =>
                try dsimp only [cond_false, cond_true]
                all_goals
                  cases hq_6 : (balF t_0 ((y_991 :: y_992))) with
                  | mk y_993 y_994 =>
                    try dsimp only [cond_false, cond_true]
                    all_goals
                      cases y_994 with
                      | mk y_995 y_996 =>
                        try dsimp only [cond_false, cond_true]
                        all_goals rfl
noncomputable def withF (θ : Un) (k : Th → Bool) : Bool :=
  (Prod.rec (motive := fun _ => Bool) (fun x_997 x_998 => (Prod.rec (motive := fun _ => Bool) (fun f_999 x_1000 => (k f_999)) x_998)) (balF (nat_lit 9) θ.2))
theorem withF_def (θ : Un) (k : Th → Bool) : withF θ k = (match balF 9 θ.2 with
  | (_, f, _) => k f) := by
  show (Prod.rec (motive := fun _ => Bool) (fun x_997 x_998 => (Prod.rec (motive := fun _ => Bool) (fun f_999 x_1000 => (k f_999)) x_998)) (balF (nat_lit 9) θ.2)) = _
  all_goals
    cases hq_1 : (balF 9 θ.2) with
    | mk y_1001 y_1002 =>
      try dsimp only [cond_false, cond_true]
      all_goals
        cases y_1002 with
        | mk y_1003 y_1004 =>
          try dsimp only [cond_false, cond_true]
          all_goals rfl
theorem withF_ok {θ : Un} {k : Th → Bool} (h : withF θ k = true) : ∃ f, k f = true := by
  rw [withF_def] at h
  split at h
  exact ⟨_, h⟩
noncomputable def uniV (θ : Un) (p a : AV) : Un :=
  (Sum.rec (motive := fun _ => Un) (fun x_1005 => (Prod.rec (motive := fun _ => Un) (fun x_1007 e_1008 => (Sum.rec (motive := fun _ => Un) (fun x_1009 => (Prod.rec (motive := fun _ => Un) (fun x_1011 e_1012 => (uniL θ e_1008 e_1012)) x_1009)) (fun x_1010 => θ) a)) x_1005)) (fun x_1006 => θ) p)
theorem uniV_def (θ : Un) (p a : AV) : uniV θ p a = (match p, a with
  | .inl (_, e), .inl (_, e') => uniL θ e e'
  | _, _ => θ) := by
  show (Sum.rec (motive := fun _ => Un) (fun x_1005 => (Prod.rec (motive := fun _ => Un) (fun x_1007 e_1008 => (Sum.rec (motive := fun _ => Un) (fun x_1009 => (Prod.rec (motive := fun _ => Un) (fun x_1011 e_1012 => (uniL θ e_1008 e_1012)) x_1009)) (fun x_1010 => θ) a)) x_1005)) (fun x_1006 => θ) p) = _
  all_goals
    cases p with
    | inl y_1013 =>
      try dsimp only [cond_false, cond_true]
      all_goals
        cases y_1013 with
        | mk y_1014 y_1015 =>
          try dsimp only [cond_false, cond_true]
          all_goals
            cases a with
            | inl y_1016 =>
              try dsimp only [cond_false, cond_true]
              all_goals
                cases y_1016 with
                | mk y_1017 y_1018 =>
                  try dsimp only [cond_false, cond_true]
                  all_goals rfl
            | inr y_1019 =>
              try dsimp only [cond_false, cond_true]
              all_goals rfl
    | inr y_1020 =>
      try dsimp only [cond_false, cond_true]
      all_goals rfl
noncomputable def uniVs  : Un → List AV → List AV → Un :=
  fun θ e_0 e_1 => List.rec (motive := fun _ => Un → List AV → Un) (fun θ e_1 => θ) (fun h_0 t_0 ih θ e_1 => (List.rec (motive := fun _ => Un) θ (fun a_1021 q_1022 _ => (ih (uniV θ h_0 a_1021) q_1022)) e_1)) e_0 θ e_1
theorem uniVs_def  (θ : Un) (e_0 : List AV) (e_1 : List AV) : uniVs  θ e_0 e_1 = (match e_0, e_1 with
  | p :: r, a :: q => uniVs (uniV θ p a) r q
  | _, _ => θ) := by
  cases e_0 with
  | nil =>
    show θ = _
    try simp only [iAddQ_eq, iMulQ_eq, iNegQ_eq, lenQ_eq, nthQ_eq, setQ_eq, appQ_eq, mapQ_eq, allQ_eq, anyQ_eq, dropQ_eq, takeQ_eq, revQ_eq, getDQ_eq, optLQ_eq, brecC]
    all_goals rfl
  | cons h_0 t_0 =>
    show (List.rec (motive := fun _ => Un) θ (fun a_1023 q_1024 _ => (uniVs (uniV θ h_0 a_1023) t_0 q_1024)) e_1) = _
    try simp only [iAddQ_eq, iMulQ_eq, iNegQ_eq, lenQ_eq, nthQ_eq, setQ_eq, appQ_eq, mapQ_eq, allQ_eq, anyQ_eq, dropQ_eq, takeQ_eq, revQ_eq, getDQ_eq, optLQ_eq, brecC]
    all_goals
      cases e_1 with
      | nil =>
        try dsimp only [cond_false, cond_true]
        all_goals rfl
      | cons y_1025 y_1026 =>
        try dsimp only [cond_false, cond_true]
        all_goals rfl
noncomputable def uniS  : Nat → Un → List Sg → List Sg → Un :=
  fun e_0 e_1 e_2 e_3 => Nat.rec (motive := fun _ => Un → List Sg → List Sg → Un) (fun e_1 e_2 e_3 => e_1) (fun t_0 ih e_1 e_2 e_3 => (List.rec (motive := fun _ => Un) e_1 (fun x_1027 r_1028 _ => (Sum.rec (motive := fun _ => Un) (fun e_1029 => (List.rec (motive := fun _ => Un) e_1 (fun x_1031 q_1032 _ => (Sum.rec (motive := fun _ => Un) (fun e_1033 => (ih (uniL e_1 e_1029 e_1033) r_1028 q_1032)) (fun x_1034 => (Prod.rec (motive := fun _ => Un) (fun m_1035 x_1036 => (Prod.rec (motive := fun _ => Un) (fun lo_1037 hi_1038 => (Nat.rec (motive := fun _ => Un) (ih e_1 ((.inl e_1029) :: r_1028) q_1032) (fun m_1039 _ => (ih (Bool.rec (motive := fun _ => Un) e_1 (uniL e_1 e_1029 (kL lo_1037)) (eqI lo_1037 hi_1038)) r_1028 ((.inr (m_1039, lo_1037, hi_1038)) :: q_1032))) m_1035)) x_1036)) x_1034)) x_1031)) e_3)) (fun x_1030 => (Prod.rec (motive := fun _ => Un) (fun m_1040 x_1041 => (Prod.rec (motive := fun _ => Un) (fun lo_1042 hi_1043 => (List.rec (motive := fun _ => Un) e_1 (fun x_1044 q_1045 _ => (Sum.rec (motive := fun _ => Un) (fun e_1046 => (Nat.rec (motive := fun _ => Un) (ih e_1 r_1028 ((.inl e_1046) :: q_1045)) (fun m_1048 _ => (ih e_1 ((.inr (m_1048, lo_1042, hi_1043)) :: r_1028) q_1045)) m_1040)) (fun x_1047 => (Prod.rec (motive := fun _ => Un) (fun m_1049 x_1050 => (Prod.rec (motive := fun _ => Un) (fun lo_1051 hi_1052 => (Bool.rec (motive := fun _ => Un) (ih e_1 ((.inr ((Nat.sub m_1040 m_1049), lo_1042, hi_1043)) :: r_1028) q_1045) (Bool.rec (motive := fun _ => Un) (ih e_1 r_1028 ((.inr ((Nat.sub m_1049 m_1040), lo_1051, hi_1052)) :: q_1045)) (ih e_1 r_1028 q_1045) (Nat.beq m_1040 m_1049)) (Nat.ble m_1040 m_1049))) x_1050)) x_1047)) x_1044)) e_3)) x_1041)) x_1030)) x_1027)) e_2)) e_0 e_1 e_2 e_3
theorem uniS_def  (e_0 : Nat) (e_1 : Un) (e_2 : List Sg) (e_3 : List Sg) : uniS  e_0 e_1 e_2 e_3 = (match e_0, e_1, e_2, e_3 with
  | 0, θ, _, _ => θ
  | n + 1, θ, p, a => match p, a with
    | .inl e :: r, .inl e' :: q => uniS n (uniL θ e e') r q
    | .inl e :: r, .inr (m, lo, hi) :: q => match m with
      | 0 => uniS n θ (.inl e :: r) q
      | m + 1 => uniS n (bif eqI lo hi then uniL θ e (kL lo) else θ) r (.inr (m, lo, hi) :: q)
    | .inr (m, lo, hi) :: r, .inl e' :: q => match m with
      | 0 => uniS n θ r (.inl e' :: q)
      | m + 1 => uniS n θ (.inr (m, lo, hi) :: r) q
    | .inr (m, lo, hi) :: r, .inr (m', lo', hi') :: q => bif Nat.ble m m' then (bif Nat.beq m m' then uniS n θ r q else uniS n θ r (.inr (Nat.sub m' m, lo', hi') :: q)) else uniS n θ (.inr (Nat.sub m m', lo, hi) :: r) q
    | _, _ => θ) := by
  cases e_0 with
  | zero =>
    show e_1 = _
    try simp only [iAddQ_eq, iMulQ_eq, iNegQ_eq, lenQ_eq, nthQ_eq, setQ_eq, appQ_eq, mapQ_eq, allQ_eq, anyQ_eq, dropQ_eq, takeQ_eq, revQ_eq, getDQ_eq, optLQ_eq, brecC]
    all_goals rfl
  | succ t_0 =>
    show (List.rec (motive := fun _ => Un) e_1 (fun x_1053 r_1054 _ => (Sum.rec (motive := fun _ => Un) (fun e_1055 => (List.rec (motive := fun _ => Un) e_1 (fun x_1057 q_1058 _ => (Sum.rec (motive := fun _ => Un) (fun e_1059 => (uniS t_0 (uniL e_1 e_1055 e_1059) r_1054 q_1058)) (fun x_1060 => (Prod.rec (motive := fun _ => Un) (fun m_1061 x_1062 => (Prod.rec (motive := fun _ => Un) (fun lo_1063 hi_1064 => (Nat.rec (motive := fun _ => Un) (uniS t_0 e_1 ((.inl e_1055) :: r_1054) q_1058) (fun m_1065 _ => (uniS t_0 (Bool.rec (motive := fun _ => Un) e_1 (uniL e_1 e_1055 (kL lo_1063)) (eqI lo_1063 hi_1064)) r_1054 ((.inr (m_1065, lo_1063, hi_1064)) :: q_1058))) m_1061)) x_1062)) x_1060)) x_1057)) e_3)) (fun x_1056 => (Prod.rec (motive := fun _ => Un) (fun m_1066 x_1067 => (Prod.rec (motive := fun _ => Un) (fun lo_1068 hi_1069 => (List.rec (motive := fun _ => Un) e_1 (fun x_1070 q_1071 _ => (Sum.rec (motive := fun _ => Un) (fun e_1072 => (Nat.rec (motive := fun _ => Un) (uniS t_0 e_1 r_1054 ((.inl e_1072) :: q_1071)) (fun m_1074 _ => (uniS t_0 e_1 ((.inr (m_1074, lo_1068, hi_1069)) :: r_1054) q_1071)) m_1066)) (fun x_1073 => (Prod.rec (motive := fun _ => Un) (fun m_1075 x_1076 => (Prod.rec (motive := fun _ => Un) (fun lo_1077 hi_1078 => (Bool.rec (motive := fun _ => Un) (uniS t_0 e_1 ((.inr ((Nat.sub m_1066 m_1075), lo_1068, hi_1069)) :: r_1054) q_1071) (Bool.rec (motive := fun _ => Un) (uniS t_0 e_1 r_1054 ((.inr ((Nat.sub m_1075 m_1066), lo_1077, hi_1078)) :: q_1071)) (uniS t_0 e_1 r_1054 q_1071) (Nat.beq m_1066 m_1075)) (Nat.ble m_1066 m_1075))) x_1076)) x_1073)) x_1070)) e_3)) x_1067)) x_1056)) x_1053)) e_2) = _
    try simp only [iAddQ_eq, iMulQ_eq, iNegQ_eq, lenQ_eq, nthQ_eq, setQ_eq, appQ_eq, mapQ_eq, allQ_eq, anyQ_eq, dropQ_eq, takeQ_eq, revQ_eq, getDQ_eq, optLQ_eq, brecC]
    all_goals
      cases e_2 with
      | nil =>
        try dsimp only [cond_false, cond_true]
        all_goals rfl
      | cons y_1079 y_1080 =>
        try dsimp only [cond_false, cond_true]
        all_goals
          cases y_1079 with
          | inl y_1081 =>
            try dsimp only [cond_false, cond_true]
            all_goals
              cases e_3 with
              | nil =>
                try dsimp only [cond_false, cond_true]
                all_goals rfl
              | cons y_1082 y_1083 =>
                try dsimp only [cond_false, cond_true]
                all_goals
                  cases y_1082 with
                  | inl y_1084 =>
                    try dsimp only [cond_false, cond_true]
                    all_goals rfl
                  | inr y_1085 =>
                    try dsimp only [cond_false, cond_true]
                    all_goals
                      cases y_1085 with
                      | mk y_1086 y_1087 =>
                        try dsimp only [cond_false, cond_true]
                        all_goals
                          cases y_1087 with
                          | mk y_1088 y_1089 =>
                            try dsimp only [cond_false, cond_true]
                            all_goals
                              cases y_1086 with
                              | zero =>
                                try dsimp only [cond_false, cond_true]
                                all_goals rfl
                              | succ y_1090 =>
                                try dsimp only [cond_false, cond_true]
                                all_goals rfl
          | inr y_1091 =>
            try dsimp only [cond_false, cond_true]
            all_goals
              cases y_1091 with
              | mk y_1092 y_1093 =>
                try dsimp only [cond_false, cond_true]
                all_goals
                  cases y_1093 with
                  | mk y_1094 y_1095 =>
                    try dsimp only [cond_false, cond_true]
                    all_goals
                      cases e_3 with
                      | nil =>
                        try dsimp only [cond_false, cond_true]
                        all_goals rfl
                      | cons y_1096 y_1097 =>
                        try dsimp only [cond_false, cond_true]
                        all_goals
                          cases y_1096 with
                          | inl y_1098 =>
                            try dsimp only [cond_false, cond_true]
                            all_goals
                              cases y_1092 with
                              | zero =>
                                try dsimp only [cond_false, cond_true]
                                all_goals rfl
                              | succ y_1099 =>
                                try dsimp only [cond_false, cond_true]
                                all_goals rfl
                          | inr y_1100 =>
                            try dsimp only [cond_false, cond_true]
                            all_goals
                              cases y_1100 with
                              | mk y_1101 y_1102 =>
                                try dsimp only [cond_false, cond_true]
                                all_goals
                                  cases y_1102 with
                                  | mk y_1103 y_1104 =>
                                    try dsimp only [cond_false, cond_true]
                                    all_goals
                                      cases hq_15 : (Nat.ble y_1092 y_1101) with
                                      | false =>
                                        try dsimp only [cond_false, cond_true]
                                        all_goals rfl
                                      | true =>
                                        try dsimp only [cond_false, cond_true]
                                        all_goals
                                          cases hq_16 : (Nat.beq y_1092 y_1101) with
                                          | false =>
                                            try dsimp only [cond_false, cond_true]
                                            all_goals rfl
                                          | true =>
                                            try dsimp only [cond_false, cond_true]
                                            all_goals rfl
noncomputable def uniC (θ : Un) (p a : AC) : Un :=
  (Sum.rec (motive := fun _ => Un) (fun x_1105 => (Prod.rec (motive := fun _ => Un) (fun x_1107 l_1108 => (Sum.rec (motive := fun _ => Un) (fun x_1109 => (Prod.rec (motive := fun _ => Un) (fun x_1111 l_1112 => (uniVs θ l_1108 l_1112)) x_1109)) (fun x_1110 => θ) a)) x_1105)) (fun x_1106 => (Prod.rec (motive := fun _ => Un) (fun x_1113 x_1114 => (Sum.rec (motive := fun _ => Un) (fun s_1115 => (Sum.rec (motive := fun _ => Un) (fun x_1117 => θ) (fun x_1118 => (Prod.rec (motive := fun _ => Un) (fun x_1119 x_1120 => (Sum.rec (motive := fun _ => Un) (fun s_1121 => (uniS (nat_lit 600) θ s_1115 s_1121)) (fun x_1122 => θ) x_1120)) x_1118)) a)) (fun x_1116 => θ) x_1114)) x_1106)) p)
theorem uniC_def (θ : Un) (p a : AC) : uniC θ p a = (match p, a with
  | .inl (_, l), .inl (_, l') => uniVs θ l l'
  | .inr (_, .inl s), .inr (_, .inl s') => uniS 600 θ s s'
  | _, _ => θ) := by
  show (Sum.rec (motive := fun _ => Un) (fun x_1105 => (Prod.rec (motive := fun _ => Un) (fun x_1107 l_1108 => (Sum.rec (motive := fun _ => Un) (fun x_1109 => (Prod.rec (motive := fun _ => Un) (fun x_1111 l_1112 => (uniVs θ l_1108 l_1112)) x_1109)) (fun x_1110 => θ) a)) x_1105)) (fun x_1106 => (Prod.rec (motive := fun _ => Un) (fun x_1113 x_1114 => (Sum.rec (motive := fun _ => Un) (fun s_1115 => (Sum.rec (motive := fun _ => Un) (fun x_1117 => θ) (fun x_1118 => (Prod.rec (motive := fun _ => Un) (fun x_1119 x_1120 => (Sum.rec (motive := fun _ => Un) (fun s_1121 => (uniS (nat_lit 600) θ s_1115 s_1121)) (fun x_1122 => θ) x_1120)) x_1118)) a)) (fun x_1116 => θ) x_1114)) x_1106)) p) = _
  all_goals
    cases p with
    | inl y_1123 =>
      try dsimp only [cond_false, cond_true]
      all_goals
        cases y_1123 with
        | mk y_1124 y_1125 =>
          try dsimp only [cond_false, cond_true]
          all_goals
            cases a with
            | inl y_1126 =>
              try dsimp only [cond_false, cond_true]
              all_goals
                cases y_1126 with
                | mk y_1127 y_1128 =>
                  try dsimp only [cond_false, cond_true]
                  all_goals rfl
            | inr y_1129 =>
              try dsimp only [cond_false, cond_true]
              all_goals rfl
    | inr y_1130 =>
      try dsimp only [cond_false, cond_true]
      all_goals
        cases y_1130 with
        | mk y_1131 y_1132 =>
          try dsimp only [cond_false, cond_true]
          all_goals
            cases y_1132 with
            | inl y_1133 =>
              try dsimp only [cond_false, cond_true]
              all_goals
                cases a with
                | inl y_1134 =>
                  try dsimp only [cond_false, cond_true]
                  all_goals rfl
                | inr y_1135 =>
                  try dsimp only [cond_false, cond_true]
                  all_goals
                    cases y_1135 with
                    | mk y_1136 y_1137 =>
                      try dsimp only [cond_false, cond_true]
                      all_goals
                        cases y_1137 with
                        | inl y_1138 =>
                          try dsimp only [cond_false, cond_true]
                          all_goals rfl
                        | inr y_1139 =>
                          try dsimp only [cond_false, cond_true]
                          all_goals rfl
            | inr y_1140 =>
              try dsimp only [cond_false, cond_true]
              all_goals rfl
noncomputable def uniH  : Un → AH → AH → Un :=
  fun θ e_0 e_1 => List.rec (motive := fun _ => Un → AH → Un) (fun θ e_1 => θ) (fun h_0 t_0 ih θ e_1 => (List.rec (motive := fun _ => Un) θ (fun a_1141 q_1142 _ => (ih (uniC θ h_0 a_1141) q_1142)) e_1)) e_0 θ e_1
theorem uniH_def  (θ : Un) (e_0 : AH) (e_1 : AH) : uniH  θ e_0 e_1 = (match e_0, e_1 with
  | p :: r, a :: q => uniH (uniC θ p a) r q
  | _, _ => θ) := by
  cases e_0 with
  | nil =>
    show θ = _
    try simp only [iAddQ_eq, iMulQ_eq, iNegQ_eq, lenQ_eq, nthQ_eq, setQ_eq, appQ_eq, mapQ_eq, allQ_eq, anyQ_eq, dropQ_eq, takeQ_eq, revQ_eq, getDQ_eq, optLQ_eq, brecC]
    all_goals rfl
  | cons h_0 t_0 =>
    show (List.rec (motive := fun _ => Un) θ (fun a_1143 q_1144 _ => (uniH (uniC θ h_0 a_1143) t_0 q_1144)) e_1) = _
    try simp only [iAddQ_eq, iMulQ_eq, iNegQ_eq, lenQ_eq, nthQ_eq, setQ_eq, appQ_eq, mapQ_eq, allQ_eq, anyQ_eq, dropQ_eq, takeQ_eq, revQ_eq, getDQ_eq, optLQ_eq, brecC]
    all_goals
      cases e_1 with
      | nil =>
        try dsimp only [cond_false, cond_true]
        all_goals rfl
      | cons y_1145 y_1146 =>
        try dsimp only [cond_false, cond_true]
        all_goals rfl
noncomputable def okNum (tab : Tb) (fs : List Ln) (θ : Un) (p a : Ln) : Bool :=
  (List.rec (motive := fun _ => Bool) true (fun x_1147 x_1148 _ => (Prod.rec (motive := fun _ => Bool) (fun s_1149 x_1150 => (List.rec (motive := fun _ => Bool) (Bool.rec (motive := fun _ => Bool) true (eqL tab fs (sbL (fun s => (thLk s θ.2)) p) a) (thHas s_1149 θ)) (fun x_1151 x_1152 _ => true) x_1148)) x_1147)) p.2)
theorem okNum_def (tab : Tb) (fs : List Ln) (θ : Un) (p a : Ln) : okNum tab fs θ p a = (match p.2 with
  | [(s, _)] => bif thHas s θ then eqL tab fs (sbL (fun s => thLk s θ.2) p) a else true
  | _ => true) := by
  show (List.rec (motive := fun _ => Bool) true (fun x_1147 x_1148 _ => (Prod.rec (motive := fun _ => Bool) (fun s_1149 x_1150 => (List.rec (motive := fun _ => Bool) (Bool.rec (motive := fun _ => Bool) true (eqL tab fs (sbL (fun s => (thLk s θ.2)) p) a) (thHas s_1149 θ)) (fun x_1151 x_1152 _ => true) x_1148)) x_1147)) p.2) = _
  try simp only [iAddQ_eq, iMulQ_eq, iNegQ_eq, lenQ_eq, nthQ_eq, setQ_eq, appQ_eq, mapQ_eq, allQ_eq, anyQ_eq, dropQ_eq, takeQ_eq, revQ_eq, getDQ_eq, optLQ_eq, brecC]
  all_goals
    cases hq_1 : p.2 with
    | nil =>
      try dsimp only [cond_false, cond_true]
      all_goals rfl
    | cons y_1153 y_1154 =>
      try dsimp only [cond_false, cond_true]
      all_goals
        cases y_1153 with
        | mk y_1155 y_1156 =>
          try dsimp only [cond_false, cond_true]
          all_goals
            cases y_1154 with
            | nil =>
              try dsimp only [cond_false, cond_true]
              all_goals
                cases hq_4 : (thHas y_1155 θ) with
                | false =>
                  try dsimp only [cond_false, cond_true]
                  all_goals rfl
                | true =>
                  try dsimp only [cond_false, cond_true]
                  all_goals rfl
            | cons y_1157 y_1158 =>
              try dsimp only [cond_false, cond_true]
              all_goals rfl
noncomputable def okNums (tab : Tb) (fs : List Ln) (θ : Un) : List Ln → List Ln → Bool :=
  fun e_0 e_1 => List.rec (motive := fun _ => List Ln → Bool) (fun e_1 => (List.rec (motive := fun _ => Bool) true (fun x_1159 x_1160 _ => false) e_1)) (fun h_0 t_0 ih e_1 => (List.rec (motive := fun _ => Bool) false (fun a_1161 q_1162 _ => (Bool.rec (motive := fun _ => Bool) false (ih q_1162) (okNum tab fs θ h_0 a_1161))) e_1)) e_0 e_1
theorem okNums_def (tab : Tb) (fs : List Ln) (θ : Un) (e_0 : List Ln) (e_1 : List Ln) : okNums tab fs θ e_0 e_1 = (match e_0, e_1 with
  | p :: r, a :: q => bif okNum tab fs θ p a then okNums tab fs θ r q else false
  | [], [] => true
  | _, _ => false) := by
  cases e_0 with
  | nil =>
    show (List.rec (motive := fun _ => Bool) true (fun x_1163 x_1164 _ => false) e_1) = _
    try simp only [iAddQ_eq, iMulQ_eq, iNegQ_eq, lenQ_eq, nthQ_eq, setQ_eq, appQ_eq, mapQ_eq, allQ_eq, anyQ_eq, dropQ_eq, takeQ_eq, revQ_eq, getDQ_eq, optLQ_eq, brecC]
    all_goals
      cases e_1 with
      | nil =>
        try dsimp only [cond_false, cond_true]
        all_goals rfl
      | cons y_1165 y_1166 =>
        try dsimp only [cond_false, cond_true]
        all_goals rfl
  | cons h_0 t_0 =>
    show (List.rec (motive := fun _ => Bool) false (fun a_1167 q_1168 _ => (Bool.rec (motive := fun _ => Bool) false (okNums tab fs θ t_0 q_1168) (okNum tab fs θ h_0 a_1167))) e_1) = _
    try simp only [iAddQ_eq, iMulQ_eq, iNegQ_eq, lenQ_eq, nthQ_eq, setQ_eq, appQ_eq, mapQ_eq, allQ_eq, anyQ_eq, dropQ_eq, takeQ_eq, revQ_eq, getDQ_eq, optLQ_eq, brecC]
    all_goals
      cases e_1 with
      | nil =>
        try dsimp only [cond_false, cond_true]
        all_goals rfl
      | cons y_1169 y_1170 =>
        try dsimp only [cond_false, cond_true]
        all_goals
          cases hq_3 : (okNum tab fs θ h_0 y_1169) with
          | false =>
            try dsimp only [cond_false, cond_true]
            all_goals rfl
          | true =>
            try dsimp only [cond_false, cond_true]
            all_goals rfl
noncomputable def uniN  : Un → List Ln → List Ln → Un :=
  fun θ e_0 e_1 => List.rec (motive := fun _ => Un → List Ln → Un) (fun θ e_1 => θ) (fun h_0 t_0 ih θ e_1 => (List.rec (motive := fun _ => Un) θ (fun a_1171 q_1172 _ => (ih (uniL θ h_0 a_1171) q_1172)) e_1)) e_0 θ e_1
theorem uniN_def  (θ : Un) (e_0 : List Ln) (e_1 : List Ln) : uniN  θ e_0 e_1 = (match e_0, e_1 with
  | p :: r, a :: q => uniN (uniL θ p a) r q
  | _, _ => θ) := by
  cases e_0 with
  | nil =>
    show θ = _
    try simp only [iAddQ_eq, iMulQ_eq, iNegQ_eq, lenQ_eq, nthQ_eq, setQ_eq, appQ_eq, mapQ_eq, allQ_eq, anyQ_eq, dropQ_eq, takeQ_eq, revQ_eq, getDQ_eq, optLQ_eq, brecC]
    all_goals rfl
  | cons h_0 t_0 =>
    show (List.rec (motive := fun _ => Un) θ (fun a_1173 q_1174 _ => (uniN (uniL θ h_0 a_1173) t_0 q_1174)) e_1) = _
    try simp only [iAddQ_eq, iMulQ_eq, iNegQ_eq, lenQ_eq, nthQ_eq, setQ_eq, appQ_eq, mapQ_eq, allQ_eq, anyQ_eq, dropQ_eq, takeQ_eq, revQ_eq, getDQ_eq, optLQ_eq, brecC]
    all_goals
      cases e_1 with
      | nil =>
        try dsimp only [cond_false, cond_true]
        all_goals rfl
      | cons y_1175 y_1176 =>
        try dsimp only [cond_false, cond_true]
        all_goals rfl
-- checks
noncomputable def chkV (tab : Tb) (fs : List Ln) (θ : Th) (p a : AV) : Bool :=
  (Sum.rec (motive := fun _ => Bool) (fun x_1177 => (Prod.rec (motive := fun _ => Bool) (fun b_1179 e_1180 => (Sum.rec (motive := fun _ => Bool) (fun x_1181 => (Prod.rec (motive := fun _ => Bool) (fun b_1183 e_1184 => (Bool.rec (motive := fun _ => Bool) false (eqL tab fs (sbL θ e_1180) e_1184) (lnB b_1179 b_1183))) x_1181)) (fun x_1182 => false) a)) x_1177)) (fun x_1178 => (Sum.rec (motive := fun _ => Bool) (fun x_1185 => (Option.rec (motive := fun _ => Bool) (Sum.rec (motive := fun _ => Bool) (fun x_1188 => false) (fun x_1189 => (Sum.rec (motive := fun _ => Bool) (fun x_1190 => (Option.rec (motive := fun _ => Bool) true (fun x_1192 => false) x_1190)) (fun x_1191 => false) x_1189)) a) (fun i_1187 => (Sum.rec (motive := fun _ => Bool) (fun x_1193 => false) (fun x_1194 => (Sum.rec (motive := fun _ => Bool) (fun x_1195 => (Option.rec (motive := fun _ => Bool) false (fun j_1197 => (Nat.beq i_1187 j_1197)) x_1195)) (fun x_1196 => false) x_1194)) a)) x_1185)) (fun x_1186 => false) x_1178)) p)
theorem chkV_def (tab : Tb) (fs : List Ln) (θ : Th) (p a : AV) : chkV tab fs θ p a = (match p, a with
  | .inl (b, e), .inl (b', e') => bif lnB b b' then eqL tab fs (sbL θ e) e' else false
  | .inr (.inl (some i)), .inr (.inl (some j)) => Nat.beq i j
  | .inr (.inl none), .inr (.inl none) => true
  | _, _ => false) := by
  show (Sum.rec (motive := fun _ => Bool) (fun x_1177 => (Prod.rec (motive := fun _ => Bool) (fun b_1179 e_1180 => (Sum.rec (motive := fun _ => Bool) (fun x_1181 => (Prod.rec (motive := fun _ => Bool) (fun b_1183 e_1184 => (Bool.rec (motive := fun _ => Bool) false (eqL tab fs (sbL θ e_1180) e_1184) (lnB b_1179 b_1183))) x_1181)) (fun x_1182 => false) a)) x_1177)) (fun x_1178 => (Sum.rec (motive := fun _ => Bool) (fun x_1185 => (Option.rec (motive := fun _ => Bool) (Sum.rec (motive := fun _ => Bool) (fun x_1188 => false) (fun x_1189 => (Sum.rec (motive := fun _ => Bool) (fun x_1190 => (Option.rec (motive := fun _ => Bool) true (fun x_1192 => false) x_1190)) (fun x_1191 => false) x_1189)) a) (fun i_1187 => (Sum.rec (motive := fun _ => Bool) (fun x_1193 => false) (fun x_1194 => (Sum.rec (motive := fun _ => Bool) (fun x_1195 => (Option.rec (motive := fun _ => Bool) false (fun j_1197 => (Nat.beq i_1187 j_1197)) x_1195)) (fun x_1196 => false) x_1194)) a)) x_1185)) (fun x_1186 => false) x_1178)) p) = _
  try simp only [iAddQ_eq, iMulQ_eq, iNegQ_eq, lenQ_eq, nthQ_eq, setQ_eq, appQ_eq, mapQ_eq, allQ_eq, anyQ_eq, dropQ_eq, takeQ_eq, revQ_eq, getDQ_eq, optLQ_eq, brecC]
  all_goals
    cases p with
    | inl y_1198 =>
      try dsimp only [cond_false, cond_true]
      all_goals
        cases y_1198 with
        | mk y_1199 y_1200 =>
          try dsimp only [cond_false, cond_true]
          all_goals
            cases a with
            | inl y_1201 =>
              try dsimp only [cond_false, cond_true]
              all_goals
                cases y_1201 with
                | mk y_1202 y_1203 =>
                  try dsimp only [cond_false, cond_true]
                  all_goals
                    cases hq_5 : (lnB y_1199 y_1202) with
                    | false =>
                      try dsimp only [cond_false, cond_true]
                      all_goals rfl
                    | true =>
                      try dsimp only [cond_false, cond_true]
                      all_goals rfl
            | inr y_1204 =>
              try dsimp only [cond_false, cond_true]
              all_goals rfl
    | inr y_1205 =>
      try dsimp only [cond_false, cond_true]
      all_goals
        cases y_1205 with
        | inl y_1206 =>
          try dsimp only [cond_false, cond_true]
          all_goals
            cases y_1206 with
            | none =>
              try dsimp only [cond_false, cond_true]
              all_goals
                cases a with
                | inl y_1207 =>
                  try dsimp only [cond_false, cond_true]
                  all_goals rfl
                | inr y_1208 =>
                  try dsimp only [cond_false, cond_true]
                  all_goals
                    cases y_1208 with
                    | inl y_1209 =>
                      try dsimp only [cond_false, cond_true]
                      all_goals
                        cases y_1209 with
                        | none =>
                          try dsimp only [cond_false, cond_true]
                          all_goals rfl
                        | some y_1210 =>
                          try dsimp only [cond_false, cond_true]
                          all_goals rfl
                    | inr y_1211 =>
                      try dsimp only [cond_false, cond_true]
                      all_goals rfl
            | some y_1212 =>
              try dsimp only [cond_false, cond_true]
              all_goals
                cases a with
                | inl y_1213 =>
                  try dsimp only [cond_false, cond_true]
                  all_goals rfl
                | inr y_1214 =>
                  try dsimp only [cond_false, cond_true]
                  all_goals
                    cases y_1214 with
                    | inl y_1215 =>
                      try dsimp only [cond_false, cond_true]
                      all_goals
                        cases y_1215 with
                        | none =>
                          try dsimp only [cond_false, cond_true]
                          all_goals rfl
                        | some y_1216 =>
                          try dsimp only [cond_false, cond_true]
                          all_goals rfl
                    | inr y_1217 =>
                      try dsimp only [cond_false, cond_true]
                      all_goals rfl
        | inr y_1218 =>
          try dsimp only [cond_false, cond_true]
          all_goals rfl
noncomputable def chkVs (tab : Tb) (fs : List Ln) (θ : Th) : List AV → List AV → Bool :=
  fun e_0 e_1 => List.rec (motive := fun _ => List AV → Bool) (fun e_1 => (List.rec (motive := fun _ => Bool) true (fun x_1219 x_1220 _ => false) e_1)) (fun h_0 t_0 ih e_1 => (List.rec (motive := fun _ => Bool) false (fun a_1221 q_1222 _ => (Bool.rec (motive := fun _ => Bool) false (ih q_1222) (chkV tab fs θ h_0 a_1221))) e_1)) e_0 e_1
theorem chkVs_def (tab : Tb) (fs : List Ln) (θ : Th) (e_0 : List AV) (e_1 : List AV) : chkVs tab fs θ e_0 e_1 = (match e_0, e_1 with
  | [], [] => true
  | p :: r, a :: q => bif chkV tab fs θ p a then chkVs tab fs θ r q else false
  | _, _ => false) := by
  cases e_0 with
  | nil =>
    show (List.rec (motive := fun _ => Bool) true (fun x_1223 x_1224 _ => false) e_1) = _
    try simp only [iAddQ_eq, iMulQ_eq, iNegQ_eq, lenQ_eq, nthQ_eq, setQ_eq, appQ_eq, mapQ_eq, allQ_eq, anyQ_eq, dropQ_eq, takeQ_eq, revQ_eq, getDQ_eq, optLQ_eq, brecC]
    all_goals
      cases e_1 with
      | nil =>
        try dsimp only [cond_false, cond_true]
        all_goals rfl
      | cons y_1225 y_1226 =>
        try dsimp only [cond_false, cond_true]
        all_goals rfl
  | cons h_0 t_0 =>
    show (List.rec (motive := fun _ => Bool) false (fun a_1227 q_1228 _ => (Bool.rec (motive := fun _ => Bool) false (chkVs tab fs θ t_0 q_1228) (chkV tab fs θ h_0 a_1227))) e_1) = _
    try simp only [iAddQ_eq, iMulQ_eq, iNegQ_eq, lenQ_eq, nthQ_eq, setQ_eq, appQ_eq, mapQ_eq, allQ_eq, anyQ_eq, dropQ_eq, takeQ_eq, revQ_eq, getDQ_eq, optLQ_eq, brecC]
    all_goals
      cases e_1 with
      | nil =>
        try dsimp only [cond_false, cond_true]
        all_goals rfl
      | cons y_1229 y_1230 =>
        try dsimp only [cond_false, cond_true]
        all_goals
          cases hq_3 : (chkV tab fs θ h_0 y_1229) with
          | false =>
            try dsimp only [cond_false, cond_true]
            all_goals rfl
          | true =>
            try dsimp only [cond_false, cond_true]
            all_goals rfl
noncomputable def sgLe (tab : Tb) (fs : List Ln) (θ : Th) : Nat → List Sg → List Sg → Bool :=
  fun e_0 e_1 e_2 => Nat.rec (motive := fun _ => List Sg → List Sg → Bool) (fun e_1 e_2 => false) (fun t_0 ih e_1 e_2 => (List.rec (motive := fun _ => Bool) (List.rec (motive := fun _ => Bool) true (fun x_1233 q_1234 _ => (Sum.rec (motive := fun _ => Bool) (fun x_1235 => false) (fun x_1236 => (Prod.rec (motive := fun _ => Bool) (fun m_1237 x_1238 => (Prod.rec (motive := fun _ => Bool) (fun x_1239 x_1240 => (Bool.rec (motive := fun _ => Bool) false (ih [] q_1234) (Nat.beq m_1237 (nat_lit 0)))) x_1238)) x_1236)) x_1233)) e_2) (fun x_1231 r_1232 _ => (Sum.rec (motive := fun _ => Bool) (fun e_1241 => (List.rec (motive := fun _ => Bool) false (fun x_1243 q_1244 _ => (Sum.rec (motive := fun _ => Bool) (fun e_1245 => (Bool.rec (motive := fun _ => Bool) false (ih r_1232 q_1244) (eqL tab fs (sbL θ e_1241) e_1245))) (fun x_1246 => (Prod.rec (motive := fun _ => Bool) (fun m_1247 x_1248 => (Prod.rec (motive := fun _ => Bool) (fun lo_1249 hi_1250 => (Nat.rec (motive := fun _ => Bool) (ih ((.inl e_1241) :: r_1232) q_1244) (fun m_1251 _ => (Bool.rec (motive := fun _ => Bool) false (Bool.rec (motive := fun _ => Bool) false (ih r_1232 ((.inr (m_1251, lo_1249, hi_1250)) :: q_1244)) (eqL tab fs (sbL θ e_1241) (kL lo_1249))) (eqI lo_1249 hi_1250))) m_1247)) x_1248)) x_1246)) x_1243)) e_2)) (fun x_1242 => (Prod.rec (motive := fun _ => Bool) (fun m_1252 x_1253 => (Prod.rec (motive := fun _ => Bool) (fun lo_1254 hi_1255 => (List.rec (motive := fun _ => Bool) (Bool.rec (motive := fun _ => Bool) false (ih r_1232 []) (Nat.beq m_1252 (nat_lit 0))) (fun x_1256 q_1257 _ => (Sum.rec (motive := fun _ => Bool) (fun e_1258 => (Nat.rec (motive := fun _ => Bool) (ih r_1232 ((.inl e_1258) :: q_1257)) (fun m_1260 _ => (Bool.rec (motive := fun _ => Bool) false (ih ((.inr (m_1260, lo_1254, hi_1255)) :: r_1232) q_1257) (inF tab fs lo_1254 hi_1255 e_1258))) m_1252)) (fun x_1259 => (Prod.rec (motive := fun _ => Bool) (fun m_1261 x_1262 => (Prod.rec (motive := fun _ => Bool) (fun lo_1263 hi_1264 => (Bool.rec (motive := fun _ => Bool) false (Bool.rec (motive := fun _ => Bool) (ih ((.inr ((Nat.sub m_1252 m_1261), lo_1254, hi_1255)) :: r_1232) q_1257) (Bool.rec (motive := fun _ => Bool) (ih r_1232 ((.inr ((Nat.sub m_1261 m_1252), lo_1263, hi_1264)) :: q_1257)) (ih r_1232 q_1257) (Nat.beq m_1252 m_1261)) (Nat.ble m_1252 m_1261)) (Bool.rec (motive := fun _ => Bool) (Bool.rec (motive := fun _ => Bool) (Bool.rec (motive := fun _ => Bool) false (leI hi_1264 hi_1255) (leI lo_1254 lo_1263)) true (Nat.beq m_1252 (nat_lit 0))) true (Nat.beq m_1261 (nat_lit 0))))) x_1262)) x_1259)) x_1256)) e_2)) x_1253)) x_1242)) x_1231)) e_1)) e_0 e_1 e_2
theorem sgLe_def (tab : Tb) (fs : List Ln) (θ : Th) (e_0 : Nat) (e_1 : List Sg) (e_2 : List Sg) : sgLe tab fs θ e_0 e_1 e_2 = (match e_0, e_1, e_2 with
  | 0, _, _ => false
  | n + 1, p, a => match p, a with
    | [], [] => true
    | .inl e :: r, .inl e' :: q => bif eqL tab fs (sbL θ e) e' then sgLe tab fs θ n r q else false
    | .inl e :: r, .inr (m, lo, hi) :: q => match m with
      | 0 => sgLe tab fs θ n (.inl e :: r) q
      | m + 1 => bif eqI lo hi then (bif eqL tab fs (sbL θ e) (kL lo) then sgLe tab fs θ n r (.inr (m, lo, hi) :: q) else false) else false
    | .inr (m, lo, hi) :: r, [] => bif Nat.beq m 0 then sgLe tab fs θ n r [] else false
    | [], .inr (m, _, _) :: q => bif Nat.beq m 0 then sgLe tab fs θ n [] q else false
    | .inr (m, lo, hi) :: r, .inl e' :: q => match m with
      | 0 => sgLe tab fs θ n r (.inl e' :: q)
      | m + 1 => bif inF tab fs lo hi e' then sgLe tab fs θ n (.inr (m, lo, hi) :: r) q else false
    | .inr (m, lo, hi) :: r, .inr (m', lo', hi') :: q => bif (bif Nat.beq m' 0 then true else bif Nat.beq m 0 then true else bif leI lo lo' then leI hi' hi else false) then (bif Nat.ble m m' then (bif Nat.beq m m' then sgLe tab fs θ n r q else sgLe tab fs θ n r (.inr (Nat.sub m' m, lo', hi') :: q)) else sgLe tab fs θ n (.inr (Nat.sub m m', lo, hi) :: r) q) else false
    | _, _ => false) := by
  cases e_0 with
  | zero =>
    show false = _
    try simp only [iAddQ_eq, iMulQ_eq, iNegQ_eq, lenQ_eq, nthQ_eq, setQ_eq, appQ_eq, mapQ_eq, allQ_eq, anyQ_eq, dropQ_eq, takeQ_eq, revQ_eq, getDQ_eq, optLQ_eq, brecC]
    all_goals rfl
  | succ t_0 =>
    show (List.rec (motive := fun _ => Bool) (List.rec (motive := fun _ => Bool) true (fun x_1267 q_1268 _ => (Sum.rec (motive := fun _ => Bool) (fun x_1269 => false) (fun x_1270 => (Prod.rec (motive := fun _ => Bool) (fun m_1271 x_1272 => (Prod.rec (motive := fun _ => Bool) (fun x_1273 x_1274 => (Bool.rec (motive := fun _ => Bool) false (sgLe tab fs θ t_0 [] q_1268) (Nat.beq m_1271 (nat_lit 0)))) x_1272)) x_1270)) x_1267)) e_2) (fun x_1265 r_1266 _ => (Sum.rec (motive := fun _ => Bool) (fun e_1275 => (List.rec (motive := fun _ => Bool) false (fun x_1277 q_1278 _ => (Sum.rec (motive := fun _ => Bool) (fun e_1279 => (Bool.rec (motive := fun _ => Bool) false (sgLe tab fs θ t_0 r_1266 q_1278) (eqL tab fs (sbL θ e_1275) e_1279))) (fun x_1280 => (Prod.rec (motive := fun _ => Bool) (fun m_1281 x_1282 => (Prod.rec (motive := fun _ => Bool) (fun lo_1283 hi_1284 => (Nat.rec (motive := fun _ => Bool) (sgLe tab fs θ t_0 ((.inl e_1275) :: r_1266) q_1278) (fun m_1285 _ => (Bool.rec (motive := fun _ => Bool) false (Bool.rec (motive := fun _ => Bool) false (sgLe tab fs θ t_0 r_1266 ((.inr (m_1285, lo_1283, hi_1284)) :: q_1278)) (eqL tab fs (sbL θ e_1275) (kL lo_1283))) (eqI lo_1283 hi_1284))) m_1281)) x_1282)) x_1280)) x_1277)) e_2)) (fun x_1276 => (Prod.rec (motive := fun _ => Bool) (fun m_1286 x_1287 => (Prod.rec (motive := fun _ => Bool) (fun lo_1288 hi_1289 => (List.rec (motive := fun _ => Bool) (Bool.rec (motive := fun _ => Bool) false (sgLe tab fs θ t_0 r_1266 []) (Nat.beq m_1286 (nat_lit 0))) (fun x_1290 q_1291 _ => (Sum.rec (motive := fun _ => Bool) (fun e_1292 => (Nat.rec (motive := fun _ => Bool) (sgLe tab fs θ t_0 r_1266 ((.inl e_1292) :: q_1291)) (fun m_1294 _ => (Bool.rec (motive := fun _ => Bool) false (sgLe tab fs θ t_0 ((.inr (m_1294, lo_1288, hi_1289)) :: r_1266) q_1291) (inF tab fs lo_1288 hi_1289 e_1292))) m_1286)) (fun x_1293 => (Prod.rec (motive := fun _ => Bool) (fun m_1295 x_1296 => (Prod.rec (motive := fun _ => Bool) (fun lo_1297 hi_1298 => (Bool.rec (motive := fun _ => Bool) false (Bool.rec (motive := fun _ => Bool) (sgLe tab fs θ t_0 ((.inr ((Nat.sub m_1286 m_1295), lo_1288, hi_1289)) :: r_1266) q_1291) (Bool.rec (motive := fun _ => Bool) (sgLe tab fs θ t_0 r_1266 ((.inr ((Nat.sub m_1295 m_1286), lo_1297, hi_1298)) :: q_1291)) (sgLe tab fs θ t_0 r_1266 q_1291) (Nat.beq m_1286 m_1295)) (Nat.ble m_1286 m_1295)) (Bool.rec (motive := fun _ => Bool) (Bool.rec (motive := fun _ => Bool) (Bool.rec (motive := fun _ => Bool) false (leI hi_1298 hi_1289) (leI lo_1288 lo_1297)) true (Nat.beq m_1286 (nat_lit 0))) true (Nat.beq m_1295 (nat_lit 0))))) x_1296)) x_1293)) x_1290)) e_2)) x_1287)) x_1276)) x_1265)) e_1) = _
    try simp only [iAddQ_eq, iMulQ_eq, iNegQ_eq, lenQ_eq, nthQ_eq, setQ_eq, appQ_eq, mapQ_eq, allQ_eq, anyQ_eq, dropQ_eq, takeQ_eq, revQ_eq, getDQ_eq, optLQ_eq, brecC]
    all_goals
      cases e_1 with
      | nil =>
        try dsimp only [cond_false, cond_true]
        all_goals
          cases e_2 with
          | nil =>
            try dsimp only [cond_false, cond_true]
            all_goals rfl
          | cons y_1299 y_1300 =>
            try dsimp only [cond_false, cond_true]
            all_goals
              cases y_1299 with
              | inl y_1301 =>
                try dsimp only [cond_false, cond_true]
                all_goals rfl
              | inr y_1302 =>
                try dsimp only [cond_false, cond_true]
                all_goals
                  cases y_1302 with
                  | mk y_1303 y_1304 =>
                    try dsimp only [cond_false, cond_true]
                    all_goals
                      cases y_1304 with
                      | mk y_1305 y_1306 =>
                        try dsimp only [cond_false, cond_true]
                        all_goals
                          cases hq_6 : (Nat.beq y_1303 0) with
                          | false =>
                            try dsimp only [cond_false, cond_true]
                            all_goals rfl
                          | true =>
                            try dsimp only [cond_false, cond_true]
                            all_goals rfl
      | cons y_1307 y_1308 =>
        try dsimp only [cond_false, cond_true]
        all_goals
          cases y_1307 with
          | inl y_1309 =>
            try dsimp only [cond_false, cond_true]
            all_goals
              cases e_2 with
              | nil =>
                try dsimp only [cond_false, cond_true]
                all_goals rfl
              | cons y_1310 y_1311 =>
                try dsimp only [cond_false, cond_true]
                all_goals
                  cases y_1310 with
                  | inl y_1312 =>
                    try dsimp only [cond_false, cond_true]
                    all_goals
                      cases hq_10 : (eqL tab fs ((sbL θ y_1309)) y_1312) with
                      | false =>
                        try dsimp only [cond_false, cond_true]
                        all_goals rfl
                      | true =>
                        try dsimp only [cond_false, cond_true]
                        all_goals rfl
                  | inr y_1313 =>
                    try dsimp only [cond_false, cond_true]
                    all_goals
                      cases y_1313 with
                      | mk y_1314 y_1315 =>
                        try dsimp only [cond_false, cond_true]
                        all_goals
                          cases y_1315 with
                          | mk y_1316 y_1317 =>
                            try dsimp only [cond_false, cond_true]
                            all_goals
                              cases y_1314 with
                              | zero =>
                                try dsimp only [cond_false, cond_true]
                                all_goals rfl
                              | succ y_1318 =>
                                try dsimp only [cond_false, cond_true]
                                all_goals
                                  cases hq_14 : (eqI y_1316 y_1317) with
                                  | false =>
                                    try dsimp only [cond_false, cond_true]
                                    all_goals rfl
                                  | true =>
                                    try dsimp only [cond_false, cond_true]
                                    all_goals
                                      cases hq_15 : (eqL tab fs ((sbL θ y_1309)) ((kL y_1316))) with
                                      | false =>
                                        try dsimp only [cond_false, cond_true]
                                        all_goals rfl
                                      | true =>
                                        try dsimp only [cond_false, cond_true]
                                        all_goals rfl
          | inr y_1319 =>
            try dsimp only [cond_false, cond_true]
            all_goals
              cases y_1319 with
              | mk y_1320 y_1321 =>
                try dsimp only [cond_false, cond_true]
                all_goals
                  cases y_1321 with
                  | mk y_1322 y_1323 =>
                    try dsimp only [cond_false, cond_true]
                    all_goals
                      cases e_2 with
                      | nil =>
                        try dsimp only [cond_false, cond_true]
                        all_goals
                          cases hq_19 : (Nat.beq y_1320 0) with
                          | false =>
                            try dsimp only [cond_false, cond_true]
                            all_goals rfl
                          | true =>
                            try dsimp only [cond_false, cond_true]
                            all_goals rfl
                      | cons y_1324 y_1325 =>
                        try dsimp only [cond_false, cond_true]
                        all_goals
                          cases y_1324 with
                          | inl y_1326 =>
                            try dsimp only [cond_false, cond_true]
                            all_goals
                              cases y_1320 with
                              | zero =>
                                try dsimp only [cond_false, cond_true]
                                all_goals rfl
                              | succ y_1327 =>
                                try dsimp only [cond_false, cond_true]
                                all_goals
                                  cases hq_22 : (inF tab fs y_1322 y_1323 y_1326) with
                                  | false =>
                                    try dsimp only [cond_false, cond_true]
                                    all_goals rfl
                                  | true =>
                                    try dsimp only [cond_false, cond_true]
                                    all_goals rfl
                          | inr y_1328 =>
                            try dsimp only [cond_false, cond_true]
                            all_goals
                              cases y_1328 with
                              | mk y_1329 y_1330 =>
                                try dsimp only [cond_false, cond_true]
                                all_goals
                                  cases y_1330 with
                                  | mk y_1331 y_1332 =>
                                    try dsimp only [cond_false, cond_true]
                                    all_goals
                                      cases hq_25 : ((bif (Nat.beq y_1329 0) then true else (bif (Nat.beq y_1320 0) then true else (bif (leI y_1322 y_1331) then (leI y_1332 y_1323) else false)))) with
                                      | false =>
                                        try dsimp only [cond_false, cond_true]
                                        all_goals rfl
                                      | true =>
                                        try dsimp only [cond_false, cond_true]
                                        all_goals
                                          cases hq_26 : (Nat.ble y_1320 y_1329) with
                                          | false =>
                                            try dsimp only [cond_false, cond_true]
                                            all_goals rfl
                                          | true =>
                                            try dsimp only [cond_false, cond_true]
                                            all_goals
                                              cases hq_27 : (Nat.beq y_1320 y_1329) with
                                              | false =>
                                                try dsimp only [cond_false, cond_true]
                                                all_goals rfl
                                              | true =>
                                                try dsimp only [cond_false, cond_true]
                                                all_goals rfl
noncomputable def eqO  : List (Option Nat) → List (Option Nat) → Bool :=
  fun e_0 e_1 => List.rec (motive := fun _ => List (Option Nat) → Bool) (fun e_1 => (List.rec (motive := fun _ => Bool) true (fun x_1333 x_1334 _ => false) e_1)) (fun h_0 t_0 ih e_1 => (Option.rec (motive := fun _ => Bool) (List.rec (motive := fun _ => Bool) false (fun x_1336 q_1337 _ => (Option.rec (motive := fun _ => Bool) (ih q_1337) (fun x_1338 => false) x_1336)) e_1) (fun i_1335 => (List.rec (motive := fun _ => Bool) false (fun x_1339 q_1340 _ => (Option.rec (motive := fun _ => Bool) false (fun j_1341 => (Bool.rec (motive := fun _ => Bool) false (ih q_1340) (Nat.beq i_1335 j_1341))) x_1339)) e_1)) h_0)) e_0 e_1
theorem eqO_def  (e_0 : List (Option Nat)) (e_1 : List (Option Nat)) : eqO  e_0 e_1 = (match e_0, e_1 with
  | [], [] => true
  | some i :: r, some j :: q => bif Nat.beq i j then eqO r q else false
  | none :: r, none :: q => eqO r q
  | _, _ => false) := by
  cases e_0 with
  | nil =>
    show (List.rec (motive := fun _ => Bool) true (fun x_1342 x_1343 _ => false) e_1) = _
    try simp only [iAddQ_eq, iMulQ_eq, iNegQ_eq, lenQ_eq, nthQ_eq, setQ_eq, appQ_eq, mapQ_eq, allQ_eq, anyQ_eq, dropQ_eq, takeQ_eq, revQ_eq, getDQ_eq, optLQ_eq, brecC]
    all_goals
      cases e_1 with
      | nil =>
        try dsimp only [cond_false, cond_true]
        all_goals rfl
      | cons y_1344 y_1345 =>
        try dsimp only [cond_false, cond_true]
        all_goals rfl
  | cons h_0 t_0 =>
    show (Option.rec (motive := fun _ => Bool) (List.rec (motive := fun _ => Bool) false (fun x_1347 q_1348 _ => (Option.rec (motive := fun _ => Bool) (eqO t_0 q_1348) (fun x_1349 => false) x_1347)) e_1) (fun i_1346 => (List.rec (motive := fun _ => Bool) false (fun x_1350 q_1351 _ => (Option.rec (motive := fun _ => Bool) false (fun j_1352 => (Bool.rec (motive := fun _ => Bool) false (eqO t_0 q_1351) (Nat.beq i_1346 j_1352))) x_1350)) e_1)) h_0) = _
    try simp only [iAddQ_eq, iMulQ_eq, iNegQ_eq, lenQ_eq, nthQ_eq, setQ_eq, appQ_eq, mapQ_eq, allQ_eq, anyQ_eq, dropQ_eq, takeQ_eq, revQ_eq, getDQ_eq, optLQ_eq, brecC]
    all_goals
      cases h_0 with
      | none =>
        try dsimp only [cond_false, cond_true]
        all_goals
          cases e_1 with
          | nil =>
            try dsimp only [cond_false, cond_true]
            all_goals rfl
          | cons y_1353 y_1354 =>
            try dsimp only [cond_false, cond_true]
            all_goals
              cases y_1353 with
              | none =>
                try dsimp only [cond_false, cond_true]
                all_goals rfl
              | some y_1355 =>
                try dsimp only [cond_false, cond_true]
                all_goals rfl
      | some y_1356 =>
        try dsimp only [cond_false, cond_true]
        all_goals
          cases e_1 with
          | nil =>
            try dsimp only [cond_false, cond_true]
            all_goals rfl
          | cons y_1357 y_1358 =>
            try dsimp only [cond_false, cond_true]
            all_goals
              cases y_1357 with
              | none =>
                try dsimp only [cond_false, cond_true]
                all_goals rfl
              | some y_1359 =>
                try dsimp only [cond_false, cond_true]
                all_goals
                  cases hq_7 : (Nat.beq y_1356 y_1359) with
                  | false =>
                    try dsimp only [cond_false, cond_true]
                    all_goals rfl
                  | true =>
                    try dsimp only [cond_false, cond_true]
                    all_goals rfl
noncomputable def eqN  : List Nat → List Nat → Bool :=
  fun e_0 e_1 => List.rec (motive := fun _ => List Nat → Bool) (fun e_1 => (List.rec (motive := fun _ => Bool) true (fun x_1360 x_1361 _ => false) e_1)) (fun h_0 t_0 ih e_1 => (List.rec (motive := fun _ => Bool) false (fun j_1362 q_1363 _ => (Bool.rec (motive := fun _ => Bool) false (ih q_1363) (Nat.beq h_0 j_1362))) e_1)) e_0 e_1
theorem eqN_def  (e_0 : List Nat) (e_1 : List Nat) : eqN  e_0 e_1 = (match e_0, e_1 with
  | [], [] => true
  | i :: r, j :: q => bif Nat.beq i j then eqN r q else false
  | _, _ => false) := by
  cases e_0 with
  | nil =>
    show (List.rec (motive := fun _ => Bool) true (fun x_1364 x_1365 _ => false) e_1) = _
    try simp only [iAddQ_eq, iMulQ_eq, iNegQ_eq, lenQ_eq, nthQ_eq, setQ_eq, appQ_eq, mapQ_eq, allQ_eq, anyQ_eq, dropQ_eq, takeQ_eq, revQ_eq, getDQ_eq, optLQ_eq, brecC]
    all_goals
      cases e_1 with
      | nil =>
        try dsimp only [cond_false, cond_true]
        all_goals rfl
      | cons y_1366 y_1367 =>
        try dsimp only [cond_false, cond_true]
        all_goals rfl
  | cons h_0 t_0 =>
    show (List.rec (motive := fun _ => Bool) false (fun j_1368 q_1369 _ => (Bool.rec (motive := fun _ => Bool) false (eqN t_0 q_1369) (Nat.beq h_0 j_1368))) e_1) = _
    try simp only [iAddQ_eq, iMulQ_eq, iNegQ_eq, lenQ_eq, nthQ_eq, setQ_eq, appQ_eq, mapQ_eq, allQ_eq, anyQ_eq, dropQ_eq, takeQ_eq, revQ_eq, getDQ_eq, optLQ_eq, brecC]
    all_goals
      cases e_1 with
      | nil =>
        try dsimp only [cond_false, cond_true]
        all_goals rfl
      | cons y_1370 y_1371 =>
        try dsimp only [cond_false, cond_true]
        all_goals
          cases hq_3 : (Nat.beq h_0 y_1370) with
          | false =>
            try dsimp only [cond_false, cond_true]
            all_goals rfl
          | true =>
            try dsimp only [cond_false, cond_true]
            all_goals rfl
noncomputable def conLe (tab : Tb) (fs : List Ln) (θ : Th) (p a : List Sg) : Bool :=
  (List.rec (motive := fun _ => Bool) false (fun x_1372 x_1373 _ => (Sum.rec (motive := fun _ => Bool) (fun e_1374 => (List.rec (motive := fun _ => Bool) (List.rec (motive := fun _ => Bool) false (fun x_1378 x_1379 _ => (Sum.rec (motive := fun _ => Bool) (fun e_1380 => (List.rec (motive := fun _ => Bool) (eqL tab fs (sbL θ e_1374) e_1380) (fun x_1382 x_1383 _ => false) x_1379)) (fun x_1381 => false) x_1378)) a) (fun x_1376 x_1377 _ => false) x_1373)) (fun x_1375 => false) x_1372)) p)
theorem conLe_def (tab : Tb) (fs : List Ln) (θ : Th) (p a : List Sg) : conLe tab fs θ p a = (match p, a with
  | [.inl e], [.inl e'] => eqL tab fs (sbL θ e) e'
  | _, _ => false) := by
  show (List.rec (motive := fun _ => Bool) false (fun x_1372 x_1373 _ => (Sum.rec (motive := fun _ => Bool) (fun e_1374 => (List.rec (motive := fun _ => Bool) (List.rec (motive := fun _ => Bool) false (fun x_1378 x_1379 _ => (Sum.rec (motive := fun _ => Bool) (fun e_1380 => (List.rec (motive := fun _ => Bool) (eqL tab fs (sbL θ e_1374) e_1380) (fun x_1382 x_1383 _ => false) x_1379)) (fun x_1381 => false) x_1378)) a) (fun x_1376 x_1377 _ => false) x_1373)) (fun x_1375 => false) x_1372)) p) = _
  all_goals
    cases p with
    | nil =>
      try dsimp only [cond_false, cond_true]
      all_goals rfl
    | cons y_1384 y_1385 =>
      try dsimp only [cond_false, cond_true]
      all_goals
        cases y_1384 with
        | inl y_1386 =>
          try dsimp only [cond_false, cond_true]
          all_goals
            cases y_1385 with
            | nil =>
              try dsimp only [cond_false, cond_true]
              all_goals
                cases a with
                | nil =>
                  try dsimp only [cond_false, cond_true]
                  all_goals rfl
                | cons y_1387 y_1388 =>
                  try dsimp only [cond_false, cond_true]
                  all_goals
                    cases y_1387 with
                    | inl y_1389 =>
                      try dsimp only [cond_false, cond_true]
                      all_goals
                        cases y_1388 with
                        | nil =>
                          try dsimp only [cond_false, cond_true]
                          all_goals rfl
                        | cons y_1390 y_1391 =>
                          try dsimp only [cond_false, cond_true]
                          all_goals rfl
                    | inr y_1392 =>
                      try dsimp only [cond_false, cond_true]
                      all_goals rfl
            | cons y_1393 y_1394 =>
              try dsimp only [cond_false, cond_true]
              all_goals rfl
        | inr y_1395 =>
          try dsimp only [cond_false, cond_true]
          all_goals rfl
noncomputable def chkC (tab : Tb) (fs : List Ln) (θ : Th) (p a : AC) : Bool :=
  (Sum.rec (motive := fun _ => Bool) (fun x_1396 => (Prod.rec (motive := fun _ => Bool) (fun c_1398 l_1399 => (Sum.rec (motive := fun _ => Bool) (fun x_1400 => (Prod.rec (motive := fun _ => Bool) (fun c_1402 l_1403 => (Bool.rec (motive := fun _ => Bool) false (chkVs tab fs θ l_1399 l_1403) (Nat.beq c_1398 c_1402))) x_1400)) (fun x_1401 => false) a)) x_1396)) (fun x_1397 => (Prod.rec (motive := fun _ => Bool) (fun k_1404 x_1405 => (Sum.rec (motive := fun _ => Bool) (fun s_1406 => (Sum.rec (motive := fun _ => Bool) (fun x_1408 => false) (fun x_1409 => (Prod.rec (motive := fun _ => Bool) (fun k_1410 x_1411 => (Sum.rec (motive := fun _ => Bool) (fun s_1412 => (Bool.rec (motive := fun _ => Bool) false (Bool.rec (motive := fun _ => Bool) (conLe tab fs θ s_1406 s_1412) (sgLe tab fs θ (nat_lit 600) s_1406 s_1412) (Nat.blt k_1404 (nat_lit 100))) (Nat.beq k_1404 k_1410))) (fun x_1413 => false) x_1411)) x_1409)) a)) (fun x_1407 => (Sum.rec (motive := fun _ => Bool) (fun m_1414 => (Sum.rec (motive := fun _ => Bool) (fun x_1416 => false) (fun x_1417 => (Prod.rec (motive := fun _ => Bool) (fun k_1418 x_1419 => (Sum.rec (motive := fun _ => Bool) (fun x_1420 => false) (fun x_1421 => (Sum.rec (motive := fun _ => Bool) (fun m_1422 => (Bool.rec (motive := fun _ => Bool) false (Bool.rec (motive := fun _ => Bool) (Bool.rec (motive := fun _ => Bool) false (Nat.beq m_1422 (Nat.add zB m_1414)) (Nat.blt m_1414 zB)) true (Nat.beq m_1414 m_1422)) (Nat.beq k_1404 k_1418))) (fun x_1423 => false) x_1421)) x_1419)) x_1417)) a)) (fun l_1415 => (Sum.rec (motive := fun _ => Bool) (fun x_1424 => false) (fun x_1425 => (Prod.rec (motive := fun _ => Bool) (fun k_1426 x_1427 => (Sum.rec (motive := fun _ => Bool) (fun x_1428 => false) (fun x_1429 => (Sum.rec (motive := fun _ => Bool) (fun x_1430 => false) (fun l_1431 => (Bool.rec (motive := fun _ => Bool) false (eqO l_1415 l_1431) (Nat.beq k_1404 k_1426))) x_1429)) x_1427)) x_1425)) a)) x_1407)) x_1405)) x_1397)) p)
theorem chkC_def (tab : Tb) (fs : List Ln) (θ : Th) (p a : AC) : chkC tab fs θ p a = (match p, a with
  | .inl (c, l), .inl (c', l') => bif Nat.beq c c' then chkVs tab fs θ l l' else false
  | .inr (k, .inl s), .inr (k', .inl s') => bif Nat.beq k k' then (bif Nat.blt k 100 then sgLe tab fs θ 600 s s' else conLe tab fs θ s s') else false
  | .inr (k, .inr (.inl m)), .inr (k', .inr (.inl m')) => bif Nat.beq k k' then (bif Nat.beq m m' then true else bif Nat.blt m zB then Nat.beq m' (Nat.add zB m) else false) else false
  | .inr (k, .inr (.inr l)), .inr (k', .inr (.inr l')) => bif Nat.beq k k' then eqO l l' else false
  | _, _ => false) := by
  show (Sum.rec (motive := fun _ => Bool) (fun x_1396 => (Prod.rec (motive := fun _ => Bool) (fun c_1398 l_1399 => (Sum.rec (motive := fun _ => Bool) (fun x_1400 => (Prod.rec (motive := fun _ => Bool) (fun c_1402 l_1403 => (Bool.rec (motive := fun _ => Bool) false (chkVs tab fs θ l_1399 l_1403) (Nat.beq c_1398 c_1402))) x_1400)) (fun x_1401 => false) a)) x_1396)) (fun x_1397 => (Prod.rec (motive := fun _ => Bool) (fun k_1404 x_1405 => (Sum.rec (motive := fun _ => Bool) (fun s_1406 => (Sum.rec (motive := fun _ => Bool) (fun x_1408 => false) (fun x_1409 => (Prod.rec (motive := fun _ => Bool) (fun k_1410 x_1411 => (Sum.rec (motive := fun _ => Bool) (fun s_1412 => (Bool.rec (motive := fun _ => Bool) false (Bool.rec (motive := fun _ => Bool) (conLe tab fs θ s_1406 s_1412) (sgLe tab fs θ (nat_lit 600) s_1406 s_1412) (Nat.blt k_1404 (nat_lit 100))) (Nat.beq k_1404 k_1410))) (fun x_1413 => false) x_1411)) x_1409)) a)) (fun x_1407 => (Sum.rec (motive := fun _ => Bool) (fun m_1414 => (Sum.rec (motive := fun _ => Bool) (fun x_1416 => false) (fun x_1417 => (Prod.rec (motive := fun _ => Bool) (fun k_1418 x_1419 => (Sum.rec (motive := fun _ => Bool) (fun x_1420 => false) (fun x_1421 => (Sum.rec (motive := fun _ => Bool) (fun m_1422 => (Bool.rec (motive := fun _ => Bool) false (Bool.rec (motive := fun _ => Bool) (Bool.rec (motive := fun _ => Bool) false (Nat.beq m_1422 (Nat.add zB m_1414)) (Nat.blt m_1414 zB)) true (Nat.beq m_1414 m_1422)) (Nat.beq k_1404 k_1418))) (fun x_1423 => false) x_1421)) x_1419)) x_1417)) a)) (fun l_1415 => (Sum.rec (motive := fun _ => Bool) (fun x_1424 => false) (fun x_1425 => (Prod.rec (motive := fun _ => Bool) (fun k_1426 x_1427 => (Sum.rec (motive := fun _ => Bool) (fun x_1428 => false) (fun x_1429 => (Sum.rec (motive := fun _ => Bool) (fun x_1430 => false) (fun l_1431 => (Bool.rec (motive := fun _ => Bool) false (eqO l_1415 l_1431) (Nat.beq k_1404 k_1426))) x_1429)) x_1427)) x_1425)) a)) x_1407)) x_1405)) x_1397)) p) = _
  try simp only [iAddQ_eq, iMulQ_eq, iNegQ_eq, lenQ_eq, nthQ_eq, setQ_eq, appQ_eq, mapQ_eq, allQ_eq, anyQ_eq, dropQ_eq, takeQ_eq, revQ_eq, getDQ_eq, optLQ_eq, brecC]
  all_goals
    cases p with
    | inl y_1432 =>
      try dsimp only [cond_false, cond_true]
      all_goals
        cases y_1432 with
        | mk y_1433 y_1434 =>
          try dsimp only [cond_false, cond_true]
          all_goals
            cases a with
            | inl y_1435 =>
              try dsimp only [cond_false, cond_true]
              all_goals
                cases y_1435 with
                | mk y_1436 y_1437 =>
                  try dsimp only [cond_false, cond_true]
                  all_goals
                    cases hq_5 : (Nat.beq y_1433 y_1436) with
                    | false =>
                      try dsimp only [cond_false, cond_true]
                      all_goals rfl
                    | true =>
                      try dsimp only [cond_false, cond_true]
                      all_goals rfl
            | inr y_1438 =>
              try dsimp only [cond_false, cond_true]
              all_goals rfl
    | inr y_1439 =>
      try dsimp only [cond_false, cond_true]
      all_goals
        cases y_1439 with
        | mk y_1440 y_1441 =>
          try dsimp only [cond_false, cond_true]
          all_goals
            cases y_1441 with
            | inl y_1442 =>
              try dsimp only [cond_false, cond_true]
              all_goals
                cases a with
                | inl y_1443 =>
                  try dsimp only [cond_false, cond_true]
                  all_goals rfl
                | inr y_1444 =>
                  try dsimp only [cond_false, cond_true]
                  all_goals
                    cases y_1444 with
                    | mk y_1445 y_1446 =>
                      try dsimp only [cond_false, cond_true]
                      all_goals
                        cases y_1446 with
                        | inl y_1447 =>
                          try dsimp only [cond_false, cond_true]
                          all_goals
                            cases hq_11 : (Nat.beq y_1440 y_1445) with
                            | false =>
                              try dsimp only [cond_false, cond_true]
                              all_goals rfl
                            | true =>
                              try dsimp only [cond_false, cond_true]
                              all_goals
                                cases hq_12 : (Nat.blt y_1440 100) with
                                | false =>
                                  try dsimp only [cond_false, cond_true]
                                  all_goals rfl
                                | true =>
                                  try dsimp only [cond_false, cond_true]
                                  all_goals rfl
                        | inr y_1448 =>
                          try dsimp only [cond_false, cond_true]
                          all_goals rfl
            | inr y_1449 =>
              try dsimp only [cond_false, cond_true]
              all_goals
                cases y_1449 with
                | inl y_1450 =>
                  try dsimp only [cond_false, cond_true]
                  all_goals
                    cases a with
                    | inl y_1451 =>
                      try dsimp only [cond_false, cond_true]
                      all_goals rfl
                    | inr y_1452 =>
                      try dsimp only [cond_false, cond_true]
                      all_goals
                        cases y_1452 with
                        | mk y_1453 y_1454 =>
                          try dsimp only [cond_false, cond_true]
                          all_goals
                            cases y_1454 with
                            | inl y_1455 =>
                              try dsimp only [cond_false, cond_true]
                              all_goals rfl
                            | inr y_1456 =>
                              try dsimp only [cond_false, cond_true]
                              all_goals
                                cases y_1456 with
                                | inl y_1457 =>
                                  try dsimp only [cond_false, cond_true]
                                  all_goals
                                    cases hq_18 : (Nat.beq y_1440 y_1453) with
                                    | false =>
                                      try dsimp only [cond_false, cond_true]
                                      all_goals rfl
                                    | true =>
                                      try dsimp only [cond_false, cond_true]
                                      all_goals
                                        cases hq_19 : (Nat.beq y_1450 y_1457) with
                                        | false =>
                                          try dsimp only [cond_false, cond_true]
                                          all_goals
                                            cases hq_20 : (Nat.blt y_1450 zB) with
                                            | false =>
                                              try dsimp only [cond_false, cond_true]
                                              all_goals rfl
                                            | true =>
                                              try dsimp only [cond_false, cond_true]
                                              all_goals rfl
                                        | true =>
                                          try dsimp only [cond_false, cond_true]
                                          all_goals rfl
                                | inr y_1458 =>
                                  try dsimp only [cond_false, cond_true]
                                  all_goals rfl
                | inr y_1459 =>
                  try dsimp only [cond_false, cond_true]
                  all_goals
                    cases a with
                    | inl y_1460 =>
                      try dsimp only [cond_false, cond_true]
                      all_goals rfl
                    | inr y_1461 =>
                      try dsimp only [cond_false, cond_true]
                      all_goals
                        cases y_1461 with
                        | mk y_1462 y_1463 =>
                          try dsimp only [cond_false, cond_true]
                          all_goals
                            cases y_1463 with
                            | inl y_1464 =>
                              try dsimp only [cond_false, cond_true]
                              all_goals rfl
                            | inr y_1465 =>
                              try dsimp only [cond_false, cond_true]
                              all_goals
                                cases y_1465 with
                                | inl y_1466 =>
                                  try dsimp only [cond_false, cond_true]
                                  all_goals rfl
                                | inr y_1467 =>
                                  try dsimp only [cond_false, cond_true]
                                  all_goals
                                    cases hq_25 : (Nat.beq y_1440 y_1462) with
                                    | false =>
                                      try dsimp only [cond_false, cond_true]
                                      all_goals rfl
                                    | true =>
                                      try dsimp only [cond_false, cond_true]
                                      all_goals rfl
noncomputable def chkH (tab : Tb) (fs : List Ln) (θ : Th) : AH → AH → Bool :=
  fun e_0 e_1 => List.rec (motive := fun _ => AH → Bool) (fun e_1 => (List.rec (motive := fun _ => Bool) true (fun x_1468 x_1469 _ => false) e_1)) (fun h_0 t_0 ih e_1 => (List.rec (motive := fun _ => Bool) false (fun a_1470 q_1471 _ => (Bool.rec (motive := fun _ => Bool) false (ih q_1471) (chkC tab fs θ h_0 a_1470))) e_1)) e_0 e_1
theorem chkH_def (tab : Tb) (fs : List Ln) (θ : Th) (e_0 : AH) (e_1 : AH) : chkH tab fs θ e_0 e_1 = (match e_0, e_1 with
  | [], [] => true
  | p :: r, a :: q => bif chkC tab fs θ p a then chkH tab fs θ r q else false
  | _, _ => false) := by
  cases e_0 with
  | nil =>
    show (List.rec (motive := fun _ => Bool) true (fun x_1472 x_1473 _ => false) e_1) = _
    try simp only [iAddQ_eq, iMulQ_eq, iNegQ_eq, lenQ_eq, nthQ_eq, setQ_eq, appQ_eq, mapQ_eq, allQ_eq, anyQ_eq, dropQ_eq, takeQ_eq, revQ_eq, getDQ_eq, optLQ_eq, brecC]
    all_goals
      cases e_1 with
      | nil =>
        try dsimp only [cond_false, cond_true]
        all_goals rfl
      | cons y_1474 y_1475 =>
        try dsimp only [cond_false, cond_true]
        all_goals rfl
  | cons h_0 t_0 =>
    show (List.rec (motive := fun _ => Bool) false (fun a_1476 q_1477 _ => (Bool.rec (motive := fun _ => Bool) false (chkH tab fs θ t_0 q_1477) (chkC tab fs θ h_0 a_1476))) e_1) = _
    try simp only [iAddQ_eq, iMulQ_eq, iNegQ_eq, lenQ_eq, nthQ_eq, setQ_eq, appQ_eq, mapQ_eq, allQ_eq, anyQ_eq, dropQ_eq, takeQ_eq, revQ_eq, getDQ_eq, optLQ_eq, brecC]
    all_goals
      cases e_1 with
      | nil =>
        try dsimp only [cond_false, cond_true]
        all_goals rfl
      | cons y_1478 y_1479 =>
        try dsimp only [cond_false, cond_true]
        all_goals
          cases hq_3 : (chkC tab fs θ h_0 y_1478) with
          | false =>
            try dsimp only [cond_false, cond_true]
            all_goals rfl
          | true =>
            try dsimp only [cond_false, cond_true]
            all_goals rfl
noncomputable def uniP1 (tab : Tb) (fs : List Ln) (θ : Un) (p : PD) : List PD → Un :=
  fun e_0 => List.rec (motive := fun _ => Un) θ (fun h_0 t_0 ih => (Bool.rec (motive := fun _ => Un) (ih) (uniN θ p.2.2 h_0.2.2) (Bool.rec (motive := fun _ => Bool) false (Bool.rec (motive := fun _ => Bool) false (okNums tab fs θ p.2.2 h_0.2.2) (eqN p.2.1 h_0.2.1)) (Nat.beq p.1 h_0.1)))) e_0 
theorem uniP1_def (tab : Tb) (fs : List Ln) (θ : Un) (p : PD) (e_0 : List PD) : uniP1 tab fs θ p e_0 = (match e_0 with
  | [] => θ
  | q :: r => bif (bif Nat.beq p.1 q.1 then (bif eqN p.2.1 q.2.1 then okNums tab fs θ p.2.2 q.2.2 else false) else false) then uniN θ p.2.2 q.2.2 else uniP1 tab fs θ p r) := by
  cases e_0 with
  | nil =>
    show θ = _
    try simp only [iAddQ_eq, iMulQ_eq, iNegQ_eq, lenQ_eq, nthQ_eq, setQ_eq, appQ_eq, mapQ_eq, allQ_eq, anyQ_eq, dropQ_eq, takeQ_eq, revQ_eq, getDQ_eq, optLQ_eq, brecC]
    all_goals rfl
  | cons h_0 t_0 =>
    show (Bool.rec (motive := fun _ => Un) (uniP1 tab fs θ p t_0) (uniN θ p.2.2 h_0.2.2) (Bool.rec (motive := fun _ => Bool) false (Bool.rec (motive := fun _ => Bool) false (okNums tab fs θ p.2.2 h_0.2.2) (eqN p.2.1 h_0.2.1)) (Nat.beq p.1 h_0.1))) = _
    try simp only [iAddQ_eq, iMulQ_eq, iNegQ_eq, lenQ_eq, nthQ_eq, setQ_eq, appQ_eq, mapQ_eq, allQ_eq, anyQ_eq, dropQ_eq, takeQ_eq, revQ_eq, getDQ_eq, optLQ_eq, brecC]
    all_goals
      cases hq_1 : ((bif (Nat.beq p.1 h_0.1) then ((bif (eqN p.2.1 h_0.2.1) then (okNums tab fs θ p.2.2 h_0.2.2) else false)) else false)) with
      | false =>
        try dsimp only [cond_false, cond_true]
        all_goals rfl
      | true =>
        try dsimp only [cond_false, cond_true]
        all_goals rfl
noncomputable def uniP (tab : Tb) (fs : List Ln) (a : List PD) : Un → List PD → Un :=
  fun θ e_0 => List.rec (motive := fun _ => Un → Un) (fun θ => θ) (fun h_0 t_0 ih θ => (Prod.rec (motive := fun _ => Un) (fun k_1480 x_1481 => (Prod.rec (motive := fun _ => Un) (fun l_1482 x_1483 => (List.rec (motive := fun _ => Un) (ih θ) (fun x_1484 x_1485 _ => (ih (uniP1 tab fs θ h_0 a))) x_1483)) x_1481)) h_0)) e_0 θ
theorem uniP_def (tab : Tb) (fs : List Ln) (a : List PD) (θ : Un) (e_0 : List PD) : uniP tab fs a θ e_0 = (match e_0 with
  | [] => θ
  | (k, l, []) :: r => uniP tab fs a θ r
  | p :: r => uniP tab fs a (uniP1 tab fs θ p a) r) := by
  cases e_0 with
  | nil =>
    show θ = _
    try simp only [iAddQ_eq, iMulQ_eq, iNegQ_eq, lenQ_eq, nthQ_eq, setQ_eq, appQ_eq, mapQ_eq, allQ_eq, anyQ_eq, dropQ_eq, takeQ_eq, revQ_eq, getDQ_eq, optLQ_eq, brecC]
    all_goals rfl
  | cons h_0 t_0 =>
    show (Prod.rec (motive := fun _ => Un) (fun k_1486 x_1487 => (Prod.rec (motive := fun _ => Un) (fun l_1488 x_1489 => (List.rec (motive := fun _ => Un) (uniP tab fs a θ t_0) (fun x_1490 x_1491 _ => (uniP tab fs a (uniP1 tab fs θ h_0 a) t_0)) x_1489)) x_1487)) h_0) = _
    try simp only [iAddQ_eq, iMulQ_eq, iNegQ_eq, lenQ_eq, nthQ_eq, setQ_eq, appQ_eq, mapQ_eq, allQ_eq, anyQ_eq, dropQ_eq, takeQ_eq, revQ_eq, getDQ_eq, optLQ_eq, brecC]
    all_goals
      cases h_0 with
      | mk y_1492 y_1493 =>
        try dsimp only [cond_false, cond_true]
        all_goals
          cases y_1493 with
          | mk y_1494 y_1495 =>
            try dsimp only [cond_false, cond_true]
            all_goals
              cases y_1495 with
              | nil =>
                try dsimp only [cond_false, cond_true]
                all_goals rfl
              | cons y_1496 y_1497 =>
                try dsimp only [cond_false, cond_true]
                all_goals rfl
noncomputable def chkN (tab : Tb) (fs : List Ln) (θ : Th) : List Ln → List Ln → Bool :=
  fun e_0 e_1 => List.rec (motive := fun _ => List Ln → Bool) (fun e_1 => (List.rec (motive := fun _ => Bool) true (fun x_1498 x_1499 _ => false) e_1)) (fun h_0 t_0 ih e_1 => (List.rec (motive := fun _ => Bool) false (fun a_1500 q_1501 _ => (Bool.rec (motive := fun _ => Bool) false (ih q_1501) (eqL tab fs (sbL θ h_0) a_1500))) e_1)) e_0 e_1
theorem chkN_def (tab : Tb) (fs : List Ln) (θ : Th) (e_0 : List Ln) (e_1 : List Ln) : chkN tab fs θ e_0 e_1 = (match e_0, e_1 with
  | [], [] => true
  | p :: r, a :: q => bif eqL tab fs (sbL θ p) a then chkN tab fs θ r q else false
  | _, _ => false) := by
  cases e_0 with
  | nil =>
    show (List.rec (motive := fun _ => Bool) true (fun x_1502 x_1503 _ => false) e_1) = _
    try simp only [iAddQ_eq, iMulQ_eq, iNegQ_eq, lenQ_eq, nthQ_eq, setQ_eq, appQ_eq, mapQ_eq, allQ_eq, anyQ_eq, dropQ_eq, takeQ_eq, revQ_eq, getDQ_eq, optLQ_eq, brecC]
    all_goals
      cases e_1 with
      | nil =>
        try dsimp only [cond_false, cond_true]
        all_goals rfl
      | cons y_1504 y_1505 =>
        try dsimp only [cond_false, cond_true]
        all_goals rfl
  | cons h_0 t_0 =>
    show (List.rec (motive := fun _ => Bool) false (fun a_1506 q_1507 _ => (Bool.rec (motive := fun _ => Bool) false (chkN tab fs θ t_0 q_1507) (eqL tab fs (sbL θ h_0) a_1506))) e_1) = _
    try simp only [iAddQ_eq, iMulQ_eq, iNegQ_eq, lenQ_eq, nthQ_eq, setQ_eq, appQ_eq, mapQ_eq, allQ_eq, anyQ_eq, dropQ_eq, takeQ_eq, revQ_eq, getDQ_eq, optLQ_eq, brecC]
    all_goals
      cases e_1 with
      | nil =>
        try dsimp only [cond_false, cond_true]
        all_goals rfl
      | cons y_1508 y_1509 =>
        try dsimp only [cond_false, cond_true]
        all_goals
          cases hq_3 : (eqL tab fs ((sbL θ h_0)) y_1508) with
          | false =>
            try dsimp only [cond_false, cond_true]
            all_goals rfl
          | true =>
            try dsimp only [cond_false, cond_true]
            all_goals rfl
noncomputable def hasP (tab : Tb) (fs : List Ln) (θ : Th) (p : PD) : List PD → Bool :=
  fun e_0 => List.rec (motive := fun _ => Bool) false (fun h_0 t_0 ih => (Bool.rec (motive := fun _ => Bool) (ih) true (Bool.rec (motive := fun _ => Bool) false (Bool.rec (motive := fun _ => Bool) false (chkN tab fs θ p.2.2 h_0.2.2) (eqN p.2.1 h_0.2.1)) (Nat.beq p.1 h_0.1)))) e_0 
theorem hasP_def (tab : Tb) (fs : List Ln) (θ : Th) (p : PD) (e_0 : List PD) : hasP tab fs θ p e_0 = (match e_0 with
  | [] => false
  | q :: r => bif (bif Nat.beq p.1 q.1 then (bif eqN p.2.1 q.2.1 then chkN tab fs θ p.2.2 q.2.2 else false) else false) then true else hasP tab fs θ p r) := by
  cases e_0 with
  | nil =>
    show false = _
    try simp only [iAddQ_eq, iMulQ_eq, iNegQ_eq, lenQ_eq, nthQ_eq, setQ_eq, appQ_eq, mapQ_eq, allQ_eq, anyQ_eq, dropQ_eq, takeQ_eq, revQ_eq, getDQ_eq, optLQ_eq, brecC]
    all_goals rfl
  | cons h_0 t_0 =>
    show (Bool.rec (motive := fun _ => Bool) (hasP tab fs θ p t_0) true (Bool.rec (motive := fun _ => Bool) false (Bool.rec (motive := fun _ => Bool) false (chkN tab fs θ p.2.2 h_0.2.2) (eqN p.2.1 h_0.2.1)) (Nat.beq p.1 h_0.1))) = _
    try simp only [iAddQ_eq, iMulQ_eq, iNegQ_eq, lenQ_eq, nthQ_eq, setQ_eq, appQ_eq, mapQ_eq, allQ_eq, anyQ_eq, dropQ_eq, takeQ_eq, revQ_eq, getDQ_eq, optLQ_eq, brecC]
    all_goals
      cases hq_1 : ((bif (Nat.beq p.1 h_0.1) then ((bif (eqN p.2.1 h_0.2.1) then (chkN tab fs θ p.2.2 h_0.2.2) else false)) else false)) with
      | false =>
        try dsimp only [cond_false, cond_true]
        all_goals rfl
      | true =>
        try dsimp only [cond_false, cond_true]
        all_goals rfl
noncomputable def chkP (tab : Tb) (fs : List Ln) (θ : Th) (a : List PD) : List PD → Bool :=
  fun e_0 => List.rec (motive := fun _ => Bool) true (fun h_0 t_0 ih => (Bool.rec (motive := fun _ => Bool) false (ih) (hasP tab fs θ h_0 a))) e_0 
theorem chkP_def (tab : Tb) (fs : List Ln) (θ : Th) (a : List PD) (e_0 : List PD) : chkP tab fs θ a e_0 = (match e_0 with
  | [] => true
  | p :: r => bif hasP tab fs θ p a then chkP tab fs θ a r else false) := by
  cases e_0 with
  | nil =>
    show true = _
    try simp only [iAddQ_eq, iMulQ_eq, iNegQ_eq, lenQ_eq, nthQ_eq, setQ_eq, appQ_eq, mapQ_eq, allQ_eq, anyQ_eq, dropQ_eq, takeQ_eq, revQ_eq, getDQ_eq, optLQ_eq, brecC]
    all_goals rfl
  | cons h_0 t_0 =>
    show (Bool.rec (motive := fun _ => Bool) false (chkP tab fs θ a t_0) (hasP tab fs θ h_0 a)) = _
    try simp only [iAddQ_eq, iMulQ_eq, iNegQ_eq, lenQ_eq, nthQ_eq, setQ_eq, appQ_eq, mapQ_eq, allQ_eq, anyQ_eq, dropQ_eq, takeQ_eq, revQ_eq, getDQ_eq, optLQ_eq, brecC]
    all_goals
      cases hq_1 : (hasP tab fs θ h_0 a) with
      | false =>
        try dsimp only [cond_false, cond_true]
        all_goals rfl
      | true =>
        try dsimp only [cond_false, cond_true]
        all_goals rfl
noncomputable def chkT (tab : Tb) (fs : List Ln) (θ : Th) : TbL → Bool :=
  fun e_0 => List.rec (motive := fun _ => Bool) true (fun h_0 t_0 ih => (Prod.rec (motive := fun _ => Bool) (fun s_1510 x_1511 => (Prod.rec (motive := fun _ => Bool) (fun lo_1512 hi_1513 => (Bool.rec (motive := fun _ => Bool) false (ih) (inF tab fs lo_1512 hi_1513 (θ s_1510)))) x_1511)) h_0)) e_0 
theorem chkT_def (tab : Tb) (fs : List Ln) (θ : Th) (e_0 : TbL) : chkT tab fs θ e_0 = (match e_0 with
  | [] => true
  | (s, lo, hi) :: r => bif inF tab fs lo hi (θ s) then chkT tab fs θ r else false) := by
  cases e_0 with
  | nil =>
    show true = _
    try simp only [iAddQ_eq, iMulQ_eq, iNegQ_eq, lenQ_eq, nthQ_eq, setQ_eq, appQ_eq, mapQ_eq, allQ_eq, anyQ_eq, dropQ_eq, takeQ_eq, revQ_eq, getDQ_eq, optLQ_eq, brecC]
    all_goals rfl
  | cons h_0 t_0 =>
    show (Prod.rec (motive := fun _ => Bool) (fun s_1514 x_1515 => (Prod.rec (motive := fun _ => Bool) (fun lo_1516 hi_1517 => (Bool.rec (motive := fun _ => Bool) false (chkT tab fs θ t_0) (inF tab fs lo_1516 hi_1517 (θ s_1514)))) x_1515)) h_0) = _
    try simp only [iAddQ_eq, iMulQ_eq, iNegQ_eq, lenQ_eq, nthQ_eq, setQ_eq, appQ_eq, mapQ_eq, allQ_eq, anyQ_eq, dropQ_eq, takeQ_eq, revQ_eq, getDQ_eq, optLQ_eq, brecC]
    all_goals
      cases h_0 with
      | mk y_1518 y_1519 =>
        try dsimp only [cond_false, cond_true]
        all_goals
          cases y_1519 with
          | mk y_1520 y_1521 =>
            try dsimp only [cond_false, cond_true]
            all_goals
              cases hq_3 : (inF tab fs y_1520 y_1521 ((θ y_1518))) with
              | false =>
                try dsimp only [cond_false, cond_true]
                all_goals rfl
              | true =>
                try dsimp only [cond_false, cond_true]
                all_goals rfl
noncomputable def chkF (tab : Tb) (fs : List Ln) (θ : Th) : List Ln → Bool :=
  fun e_0 => List.rec (motive := fun _ => Bool) true (fun h_0 t_0 ih => (Bool.rec (motive := fun _ => Bool) false (ih) (le0 tab fs (sbL θ h_0)))) e_0 
theorem chkF_def (tab : Tb) (fs : List Ln) (θ : Th) (e_0 : List Ln) : chkF tab fs θ e_0 = (match e_0 with
  | [] => true
  | f :: r => bif le0 tab fs (sbL θ f) then chkF tab fs θ r else false) := by
  cases e_0 with
  | nil =>
    show true = _
    try simp only [iAddQ_eq, iMulQ_eq, iNegQ_eq, lenQ_eq, nthQ_eq, setQ_eq, appQ_eq, mapQ_eq, allQ_eq, anyQ_eq, dropQ_eq, takeQ_eq, revQ_eq, getDQ_eq, optLQ_eq, brecC]
    all_goals rfl
  | cons h_0 t_0 =>
    show (Bool.rec (motive := fun _ => Bool) false (chkF tab fs θ t_0) (le0 tab fs (sbL θ h_0))) = _
    try simp only [iAddQ_eq, iMulQ_eq, iNegQ_eq, lenQ_eq, nthQ_eq, setQ_eq, appQ_eq, mapQ_eq, allQ_eq, anyQ_eq, dropQ_eq, takeQ_eq, revQ_eq, getDQ_eq, optLQ_eq, brecC]
    all_goals
      cases hq_1 : (le0 tab fs ((sbL θ h_0))) with
      | false =>
        try dsimp only [cond_false, cond_true]
        all_goals rfl
      | true =>
        try dsimp only [cond_false, cond_true]
        all_goals rfl
noncomputable def scV (n : Nat) (a : AV) : Bool := match a with
  | .inl (_, e) => scL n e
  | .inr (.inr (p, q)) => bif scL n p then scL n q else false
  | _ => true
noncomputable def scS (n : Nat) (s : Sg) : Bool := match s with
  | .inl e => scL n e
  | _ => true
noncomputable def scC (n : Nat) (c : AC) : Bool := match c with
  | .inl (_, as) => as.all (scV n)
  | .inr (_, .inl s) => s.all (scS n)
  | _ => true
-- the same text
noncomputable def eqLn (a b : Ln) : Bool :=
  (Bool.rec (motive := fun _ => Bool) false (eqT a.2 b.2) (eqI a.1 b.1))
theorem eqLn_def (a b : Ln) : eqLn a b = bif eqI a.1 b.1 then eqT a.2 b.2 else false := by
  show (Bool.rec (motive := fun _ => Bool) false (eqT a.2 b.2) (eqI a.1 b.1)) = _
  try simp only [iAddQ_eq, iMulQ_eq, iNegQ_eq, lenQ_eq, nthQ_eq, setQ_eq, appQ_eq, mapQ_eq, allQ_eq, anyQ_eq, dropQ_eq, takeQ_eq, revQ_eq, getDQ_eq, optLQ_eq, brecC]
  all_goals
    cases hq_1 : (eqI a.1 b.1) with
    | false =>
      try dsimp only [cond_false, cond_true]
      all_goals rfl
    | true =>
      try dsimp only [cond_false, cond_true]
      all_goals rfl
noncomputable def eqAV (p a : AV) : Bool :=
  (Sum.rec (motive := fun _ => Bool) (fun x_1522 => (Prod.rec (motive := fun _ => Bool) (fun b_1524 e_1525 => (Sum.rec (motive := fun _ => Bool) (fun x_1526 => (Prod.rec (motive := fun _ => Bool) (fun b_1528 e_1529 => (Bool.rec (motive := fun _ => Bool) false (eqLn e_1525 e_1529) (lnB b_1524 b_1528))) x_1526)) (fun x_1527 => false) a)) x_1522)) (fun x_1523 => (Sum.rec (motive := fun _ => Bool) (fun x_1530 => (Option.rec (motive := fun _ => Bool) (Sum.rec (motive := fun _ => Bool) (fun x_1533 => false) (fun x_1534 => (Sum.rec (motive := fun _ => Bool) (fun x_1535 => (Option.rec (motive := fun _ => Bool) true (fun x_1537 => false) x_1535)) (fun x_1536 => false) x_1534)) a) (fun i_1532 => (Sum.rec (motive := fun _ => Bool) (fun x_1538 => false) (fun x_1539 => (Sum.rec (motive := fun _ => Bool) (fun x_1540 => (Option.rec (motive := fun _ => Bool) false (fun j_1542 => (Nat.beq i_1532 j_1542)) x_1540)) (fun x_1541 => false) x_1539)) a)) x_1530)) (fun x_1531 => false) x_1523)) p)
theorem eqAV_def (p a : AV) : eqAV p a = (match p, a with
  | .inl (b, e), .inl (b', e') => bif lnB b b' then eqLn e e' else false
  | .inr (.inl (some i)), .inr (.inl (some j)) => Nat.beq i j
  | .inr (.inl none), .inr (.inl none) => true
  | _, _ => false) := by
  show (Sum.rec (motive := fun _ => Bool) (fun x_1522 => (Prod.rec (motive := fun _ => Bool) (fun b_1524 e_1525 => (Sum.rec (motive := fun _ => Bool) (fun x_1526 => (Prod.rec (motive := fun _ => Bool) (fun b_1528 e_1529 => (Bool.rec (motive := fun _ => Bool) false (eqLn e_1525 e_1529) (lnB b_1524 b_1528))) x_1526)) (fun x_1527 => false) a)) x_1522)) (fun x_1523 => (Sum.rec (motive := fun _ => Bool) (fun x_1530 => (Option.rec (motive := fun _ => Bool) (Sum.rec (motive := fun _ => Bool) (fun x_1533 => false) (fun x_1534 => (Sum.rec (motive := fun _ => Bool) (fun x_1535 => (Option.rec (motive := fun _ => Bool) true (fun x_1537 => false) x_1535)) (fun x_1536 => false) x_1534)) a) (fun i_1532 => (Sum.rec (motive := fun _ => Bool) (fun x_1538 => false) (fun x_1539 => (Sum.rec (motive := fun _ => Bool) (fun x_1540 => (Option.rec (motive := fun _ => Bool) false (fun j_1542 => (Nat.beq i_1532 j_1542)) x_1540)) (fun x_1541 => false) x_1539)) a)) x_1530)) (fun x_1531 => false) x_1523)) p) = _
  try simp only [iAddQ_eq, iMulQ_eq, iNegQ_eq, lenQ_eq, nthQ_eq, setQ_eq, appQ_eq, mapQ_eq, allQ_eq, anyQ_eq, dropQ_eq, takeQ_eq, revQ_eq, getDQ_eq, optLQ_eq, brecC]
  all_goals
    cases p with
    | inl y_1543 =>
      try dsimp only [cond_false, cond_true]
      all_goals
        cases y_1543 with
        | mk y_1544 y_1545 =>
          try dsimp only [cond_false, cond_true]
          all_goals
            cases a with
            | inl y_1546 =>
              try dsimp only [cond_false, cond_true]
              all_goals
                cases y_1546 with
                | mk y_1547 y_1548 =>
                  try dsimp only [cond_false, cond_true]
                  all_goals
                    cases hq_5 : (lnB y_1544 y_1547) with
                    | false =>
                      try dsimp only [cond_false, cond_true]
                      all_goals rfl
                    | true =>
                      try dsimp only [cond_false, cond_true]
                      all_goals rfl
            | inr y_1549 =>
              try dsimp only [cond_false, cond_true]
              all_goals rfl
    | inr y_1550 =>
      try dsimp only [cond_false, cond_true]
      all_goals
        cases y_1550 with
        | inl y_1551 =>
          try dsimp only [cond_false, cond_true]
          all_goals
            cases y_1551 with
            | none =>
              try dsimp only [cond_false, cond_true]
              all_goals
                cases a with
                | inl y_1552 =>
                  try dsimp only [cond_false, cond_true]
                  all_goals rfl
                | inr y_1553 =>
                  try dsimp only [cond_false, cond_true]
                  all_goals
                    cases y_1553 with
                    | inl y_1554 =>
                      try dsimp only [cond_false, cond_true]
                      all_goals
                        cases y_1554 with
                        | none =>
                          try dsimp only [cond_false, cond_true]
                          all_goals rfl
                        | some y_1555 =>
                          try dsimp only [cond_false, cond_true]
                          all_goals rfl
                    | inr y_1556 =>
                      try dsimp only [cond_false, cond_true]
                      all_goals rfl
            | some y_1557 =>
              try dsimp only [cond_false, cond_true]
              all_goals
                cases a with
                | inl y_1558 =>
                  try dsimp only [cond_false, cond_true]
                  all_goals rfl
                | inr y_1559 =>
                  try dsimp only [cond_false, cond_true]
                  all_goals
                    cases y_1559 with
                    | inl y_1560 =>
                      try dsimp only [cond_false, cond_true]
                      all_goals
                        cases y_1560 with
                        | none =>
                          try dsimp only [cond_false, cond_true]
                          all_goals rfl
                        | some y_1561 =>
                          try dsimp only [cond_false, cond_true]
                          all_goals rfl
                    | inr y_1562 =>
                      try dsimp only [cond_false, cond_true]
                      all_goals rfl
        | inr y_1563 =>
          try dsimp only [cond_false, cond_true]
          all_goals rfl
noncomputable def eqAVs  : List AV → List AV → Bool :=
  fun e_0 e_1 => List.rec (motive := fun _ => List AV → Bool) (fun e_1 => (List.rec (motive := fun _ => Bool) true (fun x_1564 x_1565 _ => false) e_1)) (fun h_0 t_0 ih e_1 => (List.rec (motive := fun _ => Bool) false (fun a_1566 q_1567 _ => (Bool.rec (motive := fun _ => Bool) false (ih q_1567) (eqAV h_0 a_1566))) e_1)) e_0 e_1
theorem eqAVs_def  (e_0 : List AV) (e_1 : List AV) : eqAVs  e_0 e_1 = (match e_0, e_1 with
  | [], [] => true
  | p :: r, a :: q => bif eqAV p a then eqAVs r q else false
  | _, _ => false) := by
  cases e_0 with
  | nil =>
    show (List.rec (motive := fun _ => Bool) true (fun x_1568 x_1569 _ => false) e_1) = _
    try simp only [iAddQ_eq, iMulQ_eq, iNegQ_eq, lenQ_eq, nthQ_eq, setQ_eq, appQ_eq, mapQ_eq, allQ_eq, anyQ_eq, dropQ_eq, takeQ_eq, revQ_eq, getDQ_eq, optLQ_eq, brecC]
    all_goals
      cases e_1 with
      | nil =>
        try dsimp only [cond_false, cond_true]
        all_goals rfl
      | cons y_1570 y_1571 =>
        try dsimp only [cond_false, cond_true]
        all_goals rfl
  | cons h_0 t_0 =>
    show (List.rec (motive := fun _ => Bool) false (fun a_1572 q_1573 _ => (Bool.rec (motive := fun _ => Bool) false (eqAVs t_0 q_1573) (eqAV h_0 a_1572))) e_1) = _
    try simp only [iAddQ_eq, iMulQ_eq, iNegQ_eq, lenQ_eq, nthQ_eq, setQ_eq, appQ_eq, mapQ_eq, allQ_eq, anyQ_eq, dropQ_eq, takeQ_eq, revQ_eq, getDQ_eq, optLQ_eq, brecC]
    all_goals
      cases e_1 with
      | nil =>
        try dsimp only [cond_false, cond_true]
        all_goals rfl
      | cons y_1574 y_1575 =>
        try dsimp only [cond_false, cond_true]
        all_goals
          cases hq_3 : (eqAV h_0 y_1574) with
          | false =>
            try dsimp only [cond_false, cond_true]
            all_goals rfl
          | true =>
            try dsimp only [cond_false, cond_true]
            all_goals rfl
noncomputable def eqSg (p a : Sg) : Bool :=
  (Sum.rec (motive := fun _ => Bool) (fun e_1576 => (Sum.rec (motive := fun _ => Bool) (fun e_1578 => (eqLn e_1576 e_1578)) (fun x_1579 => false) a)) (fun x_1577 => (Prod.rec (motive := fun _ => Bool) (fun m_1580 x_1581 => (Prod.rec (motive := fun _ => Bool) (fun lo_1582 hi_1583 => (Sum.rec (motive := fun _ => Bool) (fun x_1584 => false) (fun x_1585 => (Prod.rec (motive := fun _ => Bool) (fun m_1586 x_1587 => (Prod.rec (motive := fun _ => Bool) (fun lo_1588 hi_1589 => (Bool.rec (motive := fun _ => Bool) false (Bool.rec (motive := fun _ => Bool) false (eqI hi_1583 hi_1589) (eqI lo_1582 lo_1588)) (Nat.beq m_1580 m_1586))) x_1587)) x_1585)) a)) x_1581)) x_1577)) p)
theorem eqSg_def (p a : Sg) : eqSg p a = (match p, a with
  | .inl e, .inl e' => eqLn e e'
  | .inr (m, lo, hi), .inr (m', lo', hi') => bif Nat.beq m m' then (bif eqI lo lo' then eqI hi hi' else false) else false
  | _, _ => false) := by
  show (Sum.rec (motive := fun _ => Bool) (fun e_1576 => (Sum.rec (motive := fun _ => Bool) (fun e_1578 => (eqLn e_1576 e_1578)) (fun x_1579 => false) a)) (fun x_1577 => (Prod.rec (motive := fun _ => Bool) (fun m_1580 x_1581 => (Prod.rec (motive := fun _ => Bool) (fun lo_1582 hi_1583 => (Sum.rec (motive := fun _ => Bool) (fun x_1584 => false) (fun x_1585 => (Prod.rec (motive := fun _ => Bool) (fun m_1586 x_1587 => (Prod.rec (motive := fun _ => Bool) (fun lo_1588 hi_1589 => (Bool.rec (motive := fun _ => Bool) false (Bool.rec (motive := fun _ => Bool) false (eqI hi_1583 hi_1589) (eqI lo_1582 lo_1588)) (Nat.beq m_1580 m_1586))) x_1587)) x_1585)) a)) x_1581)) x_1577)) p) = _
  try simp only [iAddQ_eq, iMulQ_eq, iNegQ_eq, lenQ_eq, nthQ_eq, setQ_eq, appQ_eq, mapQ_eq, allQ_eq, anyQ_eq, dropQ_eq, takeQ_eq, revQ_eq, getDQ_eq, optLQ_eq, brecC]
  all_goals
    cases p with
    | inl y_1590 =>
      try dsimp only [cond_false, cond_true]
      all_goals
        cases a with
        | inl y_1591 =>
          try dsimp only [cond_false, cond_true]
          all_goals rfl
        | inr y_1592 =>
          try dsimp only [cond_false, cond_true]
          all_goals rfl
    | inr y_1593 =>
      try dsimp only [cond_false, cond_true]
      all_goals
        cases y_1593 with
        | mk y_1594 y_1595 =>
          try dsimp only [cond_false, cond_true]
          all_goals
            cases y_1595 with
            | mk y_1596 y_1597 =>
              try dsimp only [cond_false, cond_true]
              all_goals
                cases a with
                | inl y_1598 =>
                  try dsimp only [cond_false, cond_true]
                  all_goals rfl
                | inr y_1599 =>
                  try dsimp only [cond_false, cond_true]
                  all_goals
                    cases y_1599 with
                    | mk y_1600 y_1601 =>
                      try dsimp only [cond_false, cond_true]
                      all_goals
                        cases y_1601 with
                        | mk y_1602 y_1603 =>
                          try dsimp only [cond_false, cond_true]
                          all_goals
                            cases hq_8 : (Nat.beq y_1594 y_1600) with
                            | false =>
                              try dsimp only [cond_false, cond_true]
                              all_goals rfl
                            | true =>
                              try dsimp only [cond_false, cond_true]
                              all_goals
                                cases hq_9 : (eqI y_1596 y_1602) with
                                | false =>
                                  try dsimp only [cond_false, cond_true]
                                  all_goals rfl
                                | true =>
                                  try dsimp only [cond_false, cond_true]
                                  all_goals rfl
noncomputable def eqSgs  : List Sg → List Sg → Bool :=
  fun e_0 e_1 => List.rec (motive := fun _ => List Sg → Bool) (fun e_1 => (List.rec (motive := fun _ => Bool) true (fun x_1604 x_1605 _ => false) e_1)) (fun h_0 t_0 ih e_1 => (List.rec (motive := fun _ => Bool) false (fun a_1606 q_1607 _ => (Bool.rec (motive := fun _ => Bool) false (ih q_1607) (eqSg h_0 a_1606))) e_1)) e_0 e_1
theorem eqSgs_def  (e_0 : List Sg) (e_1 : List Sg) : eqSgs  e_0 e_1 = (match e_0, e_1 with
  | [], [] => true
  | p :: r, a :: q => bif eqSg p a then eqSgs r q else false
  | _, _ => false) := by
  cases e_0 with
  | nil =>
    show (List.rec (motive := fun _ => Bool) true (fun x_1608 x_1609 _ => false) e_1) = _
    try simp only [iAddQ_eq, iMulQ_eq, iNegQ_eq, lenQ_eq, nthQ_eq, setQ_eq, appQ_eq, mapQ_eq, allQ_eq, anyQ_eq, dropQ_eq, takeQ_eq, revQ_eq, getDQ_eq, optLQ_eq, brecC]
    all_goals
      cases e_1 with
      | nil =>
        try dsimp only [cond_false, cond_true]
        all_goals rfl
      | cons y_1610 y_1611 =>
        try dsimp only [cond_false, cond_true]
        all_goals rfl
  | cons h_0 t_0 =>
    show (List.rec (motive := fun _ => Bool) false (fun a_1612 q_1613 _ => (Bool.rec (motive := fun _ => Bool) false (eqSgs t_0 q_1613) (eqSg h_0 a_1612))) e_1) = _
    try simp only [iAddQ_eq, iMulQ_eq, iNegQ_eq, lenQ_eq, nthQ_eq, setQ_eq, appQ_eq, mapQ_eq, allQ_eq, anyQ_eq, dropQ_eq, takeQ_eq, revQ_eq, getDQ_eq, optLQ_eq, brecC]
    all_goals
      cases e_1 with
      | nil =>
        try dsimp only [cond_false, cond_true]
        all_goals rfl
      | cons y_1614 y_1615 =>
        try dsimp only [cond_false, cond_true]
        all_goals
          cases hq_3 : (eqSg h_0 y_1614) with
          | false =>
            try dsimp only [cond_false, cond_true]
            all_goals rfl
          | true =>
            try dsimp only [cond_false, cond_true]
            all_goals rfl
noncomputable def eqAC (p a : AC) : Bool :=
  (Sum.rec (motive := fun _ => Bool) (fun x_1616 => (Prod.rec (motive := fun _ => Bool) (fun c_1618 l_1619 => (Sum.rec (motive := fun _ => Bool) (fun x_1620 => (Prod.rec (motive := fun _ => Bool) (fun c_1622 l_1623 => (Bool.rec (motive := fun _ => Bool) false (eqAVs l_1619 l_1623) (Nat.beq c_1618 c_1622))) x_1620)) (fun x_1621 => false) a)) x_1616)) (fun x_1617 => (Prod.rec (motive := fun _ => Bool) (fun k_1624 x_1625 => (Sum.rec (motive := fun _ => Bool) (fun s_1626 => (Sum.rec (motive := fun _ => Bool) (fun x_1628 => false) (fun x_1629 => (Prod.rec (motive := fun _ => Bool) (fun k_1630 x_1631 => (Sum.rec (motive := fun _ => Bool) (fun s_1632 => (Bool.rec (motive := fun _ => Bool) false (eqSgs s_1626 s_1632) (Nat.beq k_1624 k_1630))) (fun x_1633 => false) x_1631)) x_1629)) a)) (fun x_1627 => (Sum.rec (motive := fun _ => Bool) (fun m_1634 => (Sum.rec (motive := fun _ => Bool) (fun x_1636 => false) (fun x_1637 => (Prod.rec (motive := fun _ => Bool) (fun k_1638 x_1639 => (Sum.rec (motive := fun _ => Bool) (fun x_1640 => false) (fun x_1641 => (Sum.rec (motive := fun _ => Bool) (fun m_1642 => (Bool.rec (motive := fun _ => Bool) false (Nat.beq m_1634 m_1642) (Nat.beq k_1624 k_1638))) (fun x_1643 => false) x_1641)) x_1639)) x_1637)) a)) (fun l_1635 => (Sum.rec (motive := fun _ => Bool) (fun x_1644 => false) (fun x_1645 => (Prod.rec (motive := fun _ => Bool) (fun k_1646 x_1647 => (Sum.rec (motive := fun _ => Bool) (fun x_1648 => false) (fun x_1649 => (Sum.rec (motive := fun _ => Bool) (fun x_1650 => false) (fun l_1651 => (Bool.rec (motive := fun _ => Bool) false (eqO l_1635 l_1651) (Nat.beq k_1624 k_1646))) x_1649)) x_1647)) x_1645)) a)) x_1627)) x_1625)) x_1617)) p)
theorem eqAC_def (p a : AC) : eqAC p a = (match p, a with
  | .inl (c, l), .inl (c', l') => bif Nat.beq c c' then eqAVs l l' else false
  | .inr (k, .inl s), .inr (k', .inl s') => bif Nat.beq k k' then eqSgs s s' else false
  | .inr (k, .inr (.inl m)), .inr (k', .inr (.inl m')) => bif Nat.beq k k' then Nat.beq m m' else false
  | .inr (k, .inr (.inr l)), .inr (k', .inr (.inr l')) => bif Nat.beq k k' then eqO l l' else false
  | _, _ => false) := by
  show (Sum.rec (motive := fun _ => Bool) (fun x_1616 => (Prod.rec (motive := fun _ => Bool) (fun c_1618 l_1619 => (Sum.rec (motive := fun _ => Bool) (fun x_1620 => (Prod.rec (motive := fun _ => Bool) (fun c_1622 l_1623 => (Bool.rec (motive := fun _ => Bool) false (eqAVs l_1619 l_1623) (Nat.beq c_1618 c_1622))) x_1620)) (fun x_1621 => false) a)) x_1616)) (fun x_1617 => (Prod.rec (motive := fun _ => Bool) (fun k_1624 x_1625 => (Sum.rec (motive := fun _ => Bool) (fun s_1626 => (Sum.rec (motive := fun _ => Bool) (fun x_1628 => false) (fun x_1629 => (Prod.rec (motive := fun _ => Bool) (fun k_1630 x_1631 => (Sum.rec (motive := fun _ => Bool) (fun s_1632 => (Bool.rec (motive := fun _ => Bool) false (eqSgs s_1626 s_1632) (Nat.beq k_1624 k_1630))) (fun x_1633 => false) x_1631)) x_1629)) a)) (fun x_1627 => (Sum.rec (motive := fun _ => Bool) (fun m_1634 => (Sum.rec (motive := fun _ => Bool) (fun x_1636 => false) (fun x_1637 => (Prod.rec (motive := fun _ => Bool) (fun k_1638 x_1639 => (Sum.rec (motive := fun _ => Bool) (fun x_1640 => false) (fun x_1641 => (Sum.rec (motive := fun _ => Bool) (fun m_1642 => (Bool.rec (motive := fun _ => Bool) false (Nat.beq m_1634 m_1642) (Nat.beq k_1624 k_1638))) (fun x_1643 => false) x_1641)) x_1639)) x_1637)) a)) (fun l_1635 => (Sum.rec (motive := fun _ => Bool) (fun x_1644 => false) (fun x_1645 => (Prod.rec (motive := fun _ => Bool) (fun k_1646 x_1647 => (Sum.rec (motive := fun _ => Bool) (fun x_1648 => false) (fun x_1649 => (Sum.rec (motive := fun _ => Bool) (fun x_1650 => false) (fun l_1651 => (Bool.rec (motive := fun _ => Bool) false (eqO l_1635 l_1651) (Nat.beq k_1624 k_1646))) x_1649)) x_1647)) x_1645)) a)) x_1627)) x_1625)) x_1617)) p) = _
  try simp only [iAddQ_eq, iMulQ_eq, iNegQ_eq, lenQ_eq, nthQ_eq, setQ_eq, appQ_eq, mapQ_eq, allQ_eq, anyQ_eq, dropQ_eq, takeQ_eq, revQ_eq, getDQ_eq, optLQ_eq, brecC]
  all_goals
    cases p with
    | inl y_1652 =>
      try dsimp only [cond_false, cond_true]
      all_goals
        cases y_1652 with
        | mk y_1653 y_1654 =>
          try dsimp only [cond_false, cond_true]
          all_goals
            cases a with
            | inl y_1655 =>
              try dsimp only [cond_false, cond_true]
              all_goals
                cases y_1655 with
                | mk y_1656 y_1657 =>
                  try dsimp only [cond_false, cond_true]
                  all_goals
                    cases hq_5 : (Nat.beq y_1653 y_1656) with
                    | false =>
                      try dsimp only [cond_false, cond_true]
                      all_goals rfl
                    | true =>
                      try dsimp only [cond_false, cond_true]
                      all_goals rfl
            | inr y_1658 =>
              try dsimp only [cond_false, cond_true]
              all_goals rfl
    | inr y_1659 =>
      try dsimp only [cond_false, cond_true]
      all_goals
        cases y_1659 with
        | mk y_1660 y_1661 =>
          try dsimp only [cond_false, cond_true]
          all_goals
            cases y_1661 with
            | inl y_1662 =>
              try dsimp only [cond_false, cond_true]
              all_goals
                cases a with
                | inl y_1663 =>
                  try dsimp only [cond_false, cond_true]
                  all_goals rfl
                | inr y_1664 =>
                  try dsimp only [cond_false, cond_true]
                  all_goals
                    cases y_1664 with
                    | mk y_1665 y_1666 =>
                      try dsimp only [cond_false, cond_true]
                      all_goals
                        cases y_1666 with
                        | inl y_1667 =>
                          try dsimp only [cond_false, cond_true]
                          all_goals
                            cases hq_11 : (Nat.beq y_1660 y_1665) with
                            | false =>
                              try dsimp only [cond_false, cond_true]
                              all_goals rfl
                            | true =>
                              try dsimp only [cond_false, cond_true]
                              all_goals rfl
                        | inr y_1668 =>
                          try dsimp only [cond_false, cond_true]
                          all_goals rfl
            | inr y_1669 =>
              try dsimp only [cond_false, cond_true]
              all_goals
                cases y_1669 with
                | inl y_1670 =>
                  try dsimp only [cond_false, cond_true]
                  all_goals
                    cases a with
                    | inl y_1671 =>
                      try dsimp only [cond_false, cond_true]
                      all_goals rfl
                    | inr y_1672 =>
                      try dsimp only [cond_false, cond_true]
                      all_goals
                        cases y_1672 with
                        | mk y_1673 y_1674 =>
                          try dsimp only [cond_false, cond_true]
                          all_goals
                            cases y_1674 with
                            | inl y_1675 =>
                              try dsimp only [cond_false, cond_true]
                              all_goals rfl
                            | inr y_1676 =>
                              try dsimp only [cond_false, cond_true]
                              all_goals
                                cases y_1676 with
                                | inl y_1677 =>
                                  try dsimp only [cond_false, cond_true]
                                  all_goals
                                    cases hq_17 : (Nat.beq y_1660 y_1673) with
                                    | false =>
                                      try dsimp only [cond_false, cond_true]
                                      all_goals rfl
                                    | true =>
                                      try dsimp only [cond_false, cond_true]
                                      all_goals rfl
                                | inr y_1678 =>
                                  try dsimp only [cond_false, cond_true]
                                  all_goals rfl
                | inr y_1679 =>
                  try dsimp only [cond_false, cond_true]
                  all_goals
                    cases a with
                    | inl y_1680 =>
                      try dsimp only [cond_false, cond_true]
                      all_goals rfl
                    | inr y_1681 =>
                      try dsimp only [cond_false, cond_true]
                      all_goals
                        cases y_1681 with
                        | mk y_1682 y_1683 =>
                          try dsimp only [cond_false, cond_true]
                          all_goals
                            cases y_1683 with
                            | inl y_1684 =>
                              try dsimp only [cond_false, cond_true]
                              all_goals rfl
                            | inr y_1685 =>
                              try dsimp only [cond_false, cond_true]
                              all_goals
                                cases y_1685 with
                                | inl y_1686 =>
                                  try dsimp only [cond_false, cond_true]
                                  all_goals rfl
                                | inr y_1687 =>
                                  try dsimp only [cond_false, cond_true]
                                  all_goals
                                    cases hq_22 : (Nat.beq y_1660 y_1682) with
                                    | false =>
                                      try dsimp only [cond_false, cond_true]
                                      all_goals rfl
                                    | true =>
                                      try dsimp only [cond_false, cond_true]
                                      all_goals rfl
/-- the same cell, of symbols that stay -/
noncomputable def qC (n : Nat) (p a : AC) : Bool :=
  (Bool.rec (motive := fun _ => Bool) false (scC n p) (eqAC p a))
theorem qC_def (n : Nat) (p a : AC) : qC n p a = bif eqAC p a then scC n p else false := by
  show (Bool.rec (motive := fun _ => Bool) false (scC n p) (eqAC p a)) = _
  try simp only [iAddQ_eq, iMulQ_eq, iNegQ_eq, lenQ_eq, nthQ_eq, setQ_eq, appQ_eq, mapQ_eq, allQ_eq, anyQ_eq, dropQ_eq, takeQ_eq, revQ_eq, getDQ_eq, optLQ_eq, brecC]
  all_goals
    cases hq_1 : (eqAC p a) with
    | false =>
      try dsimp only [cond_false, cond_true]
      all_goals rfl
    | true =>
      try dsimp only [cond_false, cond_true]
      all_goals rfl
noncomputable def uniHR (n : Nat) : Un → AH → AH → Un :=
  fun θ e_0 e_1 => List.rec (motive := fun _ => Un → AH → Un) (fun θ e_1 => θ) (fun h_0 t_0 ih θ e_1 => (List.rec (motive := fun _ => Un) θ (fun a_1688 q_1689 _ => (ih (Bool.rec (motive := fun _ => Un) (uniC θ h_0 a_1688) θ (qC n h_0 a_1688)) q_1689)) e_1)) e_0 θ e_1
theorem uniHR_def (n : Nat) (θ : Un) (e_0 : AH) (e_1 : AH) : uniHR n θ e_0 e_1 = (match e_0, e_1 with
  | p :: r, a :: q => uniHR n (bif qC n p a then θ else uniC θ p a) r q
  | _, _ => θ) := by
  cases e_0 with
  | nil =>
    show θ = _
    try simp only [iAddQ_eq, iMulQ_eq, iNegQ_eq, lenQ_eq, nthQ_eq, setQ_eq, appQ_eq, mapQ_eq, allQ_eq, anyQ_eq, dropQ_eq, takeQ_eq, revQ_eq, getDQ_eq, optLQ_eq, brecC]
    all_goals rfl
  | cons h_0 t_0 =>
    show (List.rec (motive := fun _ => Un) θ (fun a_1690 q_1691 _ => (uniHR n (Bool.rec (motive := fun _ => Un) (uniC θ h_0 a_1690) θ (qC n h_0 a_1690)) t_0 q_1691)) e_1) = _
    try simp only [iAddQ_eq, iMulQ_eq, iNegQ_eq, lenQ_eq, nthQ_eq, setQ_eq, appQ_eq, mapQ_eq, allQ_eq, anyQ_eq, dropQ_eq, takeQ_eq, revQ_eq, getDQ_eq, optLQ_eq, brecC]
    all_goals
      cases e_1 with
      | nil =>
        try dsimp only [cond_false, cond_true]
        all_goals rfl
      | cons y_1692 y_1693 =>
        try dsimp only [cond_false, cond_true]
        all_goals rfl
noncomputable def chkHR (n : Nat) (tab : Tb) (fs : List Ln) (θ : Th) : AH → AH → Bool :=
  fun e_0 e_1 => List.rec (motive := fun _ => AH → Bool) (fun e_1 => (List.rec (motive := fun _ => Bool) true (fun x_1694 x_1695 _ => false) e_1)) (fun h_0 t_0 ih e_1 => (List.rec (motive := fun _ => Bool) false (fun a_1696 q_1697 _ => (Bool.rec (motive := fun _ => Bool) false (ih q_1697) (Bool.rec (motive := fun _ => Bool) (chkC tab fs θ h_0 a_1696) true (qC n h_0 a_1696)))) e_1)) e_0 e_1
theorem chkHR_def (n : Nat) (tab : Tb) (fs : List Ln) (θ : Th) (e_0 : AH) (e_1 : AH) : chkHR n tab fs θ e_0 e_1 = (match e_0, e_1 with
  | [], [] => true
  | p :: r, a :: q => bif (bif qC n p a then true else chkC tab fs θ p a) then chkHR n tab fs θ r q else false
  | _, _ => false) := by
  cases e_0 with
  | nil =>
    show (List.rec (motive := fun _ => Bool) true (fun x_1698 x_1699 _ => false) e_1) = _
    try simp only [iAddQ_eq, iMulQ_eq, iNegQ_eq, lenQ_eq, nthQ_eq, setQ_eq, appQ_eq, mapQ_eq, allQ_eq, anyQ_eq, dropQ_eq, takeQ_eq, revQ_eq, getDQ_eq, optLQ_eq, brecC]
    all_goals
      cases e_1 with
      | nil =>
        try dsimp only [cond_false, cond_true]
        all_goals rfl
      | cons y_1700 y_1701 =>
        try dsimp only [cond_false, cond_true]
        all_goals rfl
  | cons h_0 t_0 =>
    show (List.rec (motive := fun _ => Bool) false (fun a_1702 q_1703 _ => (Bool.rec (motive := fun _ => Bool) false (chkHR n tab fs θ t_0 q_1703) (Bool.rec (motive := fun _ => Bool) (chkC tab fs θ h_0 a_1702) true (qC n h_0 a_1702)))) e_1) = _
    try simp only [iAddQ_eq, iMulQ_eq, iNegQ_eq, lenQ_eq, nthQ_eq, setQ_eq, appQ_eq, mapQ_eq, allQ_eq, anyQ_eq, dropQ_eq, takeQ_eq, revQ_eq, getDQ_eq, optLQ_eq, brecC]
    all_goals
      cases e_1 with
      | nil =>
        try dsimp only [cond_false, cond_true]
        all_goals rfl
      | cons y_1704 y_1705 =>
        try dsimp only [cond_false, cond_true]
        all_goals
          cases hq_3 : ((bif (qC n h_0 y_1704) then true else (chkC tab fs θ h_0 y_1704))) with
          | false =>
            try dsimp only [cond_false, cond_true]
            all_goals rfl
          | true =>
            try dsimp only [cond_false, cond_true]
            all_goals rfl
noncomputable def isSy  : Nat → Nat → List Ln → Bool :=
  fun e_0 e_1 e_2 => Nat.rec (motive := fun _ => Nat → List Ln → Bool) (fun e_1 e_2 => (List.rec (motive := fun _ => Bool) true (fun x_1706 x_1707 _ => false) e_2)) (fun t_0 ih e_1 e_2 => (List.rec (motive := fun _ => Bool) false (fun e_1708 r_1709 _ => (Bool.rec (motive := fun _ => Bool) false (ih (Nat.succ e_1) r_1709) (Bool.rec (motive := fun _ => Bool) false (Nat.beq (fstS e_1708) e_1) (isS1 e_1708)))) e_2)) e_0 e_1 e_2
theorem isSy_def  (e_0 : Nat) (e_1 : Nat) (e_2 : List Ln) : isSy  e_0 e_1 e_2 = (match e_0, e_1, e_2 with
  | 0, _, [] => true
  | n + 1, i, e :: r => bif (bif isS1 e then Nat.beq (fstS e) i else false) then isSy n (Nat.succ i) r else false
  | _, _, _ => false) := by
  cases e_0 with
  | zero =>
    show (List.rec (motive := fun _ => Bool) true (fun x_1710 x_1711 _ => false) e_2) = _
    try simp only [iAddQ_eq, iMulQ_eq, iNegQ_eq, lenQ_eq, nthQ_eq, setQ_eq, appQ_eq, mapQ_eq, allQ_eq, anyQ_eq, dropQ_eq, takeQ_eq, revQ_eq, getDQ_eq, optLQ_eq, brecC]
    all_goals
      cases e_2 with
      | nil =>
        try dsimp only [cond_false, cond_true]
        all_goals rfl
      | cons y_1712 y_1713 =>
        try dsimp only [cond_false, cond_true]
        all_goals rfl
  | succ t_0 =>
    show (List.rec (motive := fun _ => Bool) false (fun e_1714 r_1715 _ => (Bool.rec (motive := fun _ => Bool) false (isSy t_0 (Nat.succ e_1) r_1715) (Bool.rec (motive := fun _ => Bool) false (Nat.beq (fstS e_1714) e_1) (isS1 e_1714)))) e_2) = _
    try simp only [iAddQ_eq, iMulQ_eq, iNegQ_eq, lenQ_eq, nthQ_eq, setQ_eq, appQ_eq, mapQ_eq, allQ_eq, anyQ_eq, dropQ_eq, takeQ_eq, revQ_eq, getDQ_eq, optLQ_eq, brecC]
    all_goals
      cases e_2 with
      | nil =>
        try dsimp only [cond_false, cond_true]
        all_goals rfl
      | cons y_1716 y_1717 =>
        try dsimp only [cond_false, cond_true]
        all_goals
          cases hq_3 : ((bif (isS1 y_1716) then (Nat.beq ((fstS y_1716)) e_1) else false)) with
          | false =>
            try dsimp only [cond_false, cond_true]
            all_goals rfl
          | true =>
            try dsimp only [cond_false, cond_true]
            all_goals rfl
noncomputable def rigF (n : Nat) (f : Th) (s : Nat) : Ln :=
  (Bool.rec (motive := fun _ => Ln) (f s) (sL s) (Nat.blt s n))
theorem rigF_def (n : Nat) (f : Th) (s : Nat) : rigF n f s = bif Nat.blt s n then sL s else f s := by
  show (Bool.rec (motive := fun _ => Ln) (f s) (sL s) (Nat.blt s n)) = _
  try simp only [iAddQ_eq, iMulQ_eq, iNegQ_eq, lenQ_eq, nthQ_eq, setQ_eq, appQ_eq, mapQ_eq, allQ_eq, anyQ_eq, dropQ_eq, takeQ_eq, revQ_eq, getDQ_eq, optLQ_eq, brecC]
  all_goals
    cases hq_1 : (Nat.blt s n) with
    | false =>
      try dsimp only [cond_false, cond_true]
      all_goals rfl
    | true =>
      try dsimp only [cond_false, cond_true]
      all_goals rfl
noncomputable def unR (n : Nat) : Un :=
  ((Nat.sub (Nat.shiftLeft (nat_lit 1) n) (nat_lit 1)), [])
theorem unR_def (n : Nat) : unR n = (Nat.sub (Nat.shiftLeft 1 n) 1, []) := by
  show ((Nat.sub (Nat.shiftLeft (nat_lit 1) n) (nat_lit 1)), []) = _
  all_goals rfl
noncomputable def withR (n : Nat) (θ : Un) (k : Th → Bool) : Bool :=
  (Prod.rec (motive := fun _ => Bool) (fun x_1718 x_1719 => (Prod.rec (motive := fun _ => Bool) (fun f_1720 x_1721 => (k (rigF n f_1720))) x_1719)) (balF (nat_lit 9) θ.2))
theorem withR_def (n : Nat) (θ : Un) (k : Th → Bool) : withR n θ k = (match balF 9 θ.2 with
  | (_, f, _) => k (rigF n f)) := by
  show (Prod.rec (motive := fun _ => Bool) (fun x_1718 x_1719 => (Prod.rec (motive := fun _ => Bool) (fun f_1720 x_1721 => (k (rigF n f_1720))) x_1719)) (balF (nat_lit 9) θ.2)) = _
  all_goals
    cases hq_1 : (balF 9 θ.2) with
    | mk y_1722 y_1723 =>
      try dsimp only [cond_false, cond_true]
      all_goals
        cases y_1723 with
        | mk y_1724 y_1725 =>
          try dsimp only [cond_false, cond_true]
          all_goals rfl
noncomputable def instPR (n : Nat) (tab : Tb) (fs : List Ln) (θ : Th) (P : Pt) (vs : List AV) (A : AH) (pr : List PD) : Bool :=
  (Bool.rec (motive := fun _ => Bool) false (Bool.rec (motive := fun _ => Bool) false (Bool.rec (motive := fun _ => Bool) false (Bool.rec (motive := fun _ => Bool) false (chkP tab fs θ pr P.2.2.2.2.2) (chkF tab fs θ P.2.2.1)) (chkT tab fs θ P.2.1)) (chkHR n tab fs θ P.2.2.2.2.1 A)) (chkVs tab fs θ P.2.2.2.1 vs))
theorem instPR_def (n : Nat) (tab : Tb) (fs : List Ln) (θ : Th) (P : Pt) (vs : List AV) (A : AH) (pr : List PD) : instPR n tab fs θ P vs A pr = bif chkVs tab fs θ P.2.2.2.1 vs then (bif chkHR n tab fs θ P.2.2.2.2.1 A then (bif chkT tab fs θ P.2.1 then (bif chkF tab fs θ P.2.2.1 then chkP tab fs θ pr P.2.2.2.2.2 else false) else false) else false) else false := by
  show (Bool.rec (motive := fun _ => Bool) false (Bool.rec (motive := fun _ => Bool) false (Bool.rec (motive := fun _ => Bool) false (Bool.rec (motive := fun _ => Bool) false (chkP tab fs θ pr P.2.2.2.2.2) (chkF tab fs θ P.2.2.1)) (chkT tab fs θ P.2.1)) (chkHR n tab fs θ P.2.2.2.2.1 A)) (chkVs tab fs θ P.2.2.2.1 vs)) = _
  try simp only [iAddQ_eq, iMulQ_eq, iNegQ_eq, lenQ_eq, nthQ_eq, setQ_eq, appQ_eq, mapQ_eq, allQ_eq, anyQ_eq, dropQ_eq, takeQ_eq, revQ_eq, getDQ_eq, optLQ_eq, brecC]
  all_goals
    cases hq_1 : (chkVs tab fs θ P.2.2.2.1 vs) with
    | false =>
      try dsimp only [cond_false, cond_true]
      all_goals rfl
    | true =>
      try dsimp only [cond_false, cond_true]
      all_goals
        cases hq_2 : (chkHR n tab fs θ P.2.2.2.2.1 A) with
        | false =>
          try dsimp only [cond_false, cond_true]
          all_goals rfl
        | true =>
          try dsimp only [cond_false, cond_true]
          all_goals
            cases hq_3 : (chkT tab fs θ P.2.1) with
            | false =>
              try dsimp only [cond_false, cond_true]
              all_goals rfl
            | true =>
              try dsimp only [cond_false, cond_true]
              all_goals
                cases hq_4 : (chkF tab fs θ P.2.2.1) with
                | false =>
                  try dsimp only [cond_false, cond_true]
                  all_goals rfl
                | true =>
                  try dsimp only [cond_false, cond_true]
                  all_goals rfl
noncomputable def instP (tab : Tb) (fs : List Ln) (θ : Th) (P : Pt) (vs : List AV) (A : AH) (pr : List PD) : Bool :=
  (Bool.rec (motive := fun _ => Bool) false (Bool.rec (motive := fun _ => Bool) false (Bool.rec (motive := fun _ => Bool) false (Bool.rec (motive := fun _ => Bool) false (chkP tab fs θ pr P.2.2.2.2.2) (chkF tab fs θ P.2.2.1)) (chkT tab fs θ P.2.1)) (chkH tab fs θ P.2.2.2.2.1 A)) (chkVs tab fs θ P.2.2.2.1 vs))
theorem instP_def (tab : Tb) (fs : List Ln) (θ : Th) (P : Pt) (vs : List AV) (A : AH) (pr : List PD) : instP tab fs θ P vs A pr = bif chkVs tab fs θ P.2.2.2.1 vs then (bif chkH tab fs θ P.2.2.2.2.1 A then (bif chkT tab fs θ P.2.1 then (bif chkF tab fs θ P.2.2.1 then chkP tab fs θ pr P.2.2.2.2.2 else false) else false) else false) else false := by
  show (Bool.rec (motive := fun _ => Bool) false (Bool.rec (motive := fun _ => Bool) false (Bool.rec (motive := fun _ => Bool) false (Bool.rec (motive := fun _ => Bool) false (chkP tab fs θ pr P.2.2.2.2.2) (chkF tab fs θ P.2.2.1)) (chkT tab fs θ P.2.1)) (chkH tab fs θ P.2.2.2.2.1 A)) (chkVs tab fs θ P.2.2.2.1 vs)) = _
  try simp only [iAddQ_eq, iMulQ_eq, iNegQ_eq, lenQ_eq, nthQ_eq, setQ_eq, appQ_eq, mapQ_eq, allQ_eq, anyQ_eq, dropQ_eq, takeQ_eq, revQ_eq, getDQ_eq, optLQ_eq, brecC]
  all_goals
    cases hq_1 : (chkVs tab fs θ P.2.2.2.1 vs) with
    | false =>
      try dsimp only [cond_false, cond_true]
      all_goals rfl
    | true =>
      try dsimp only [cond_false, cond_true]
      all_goals
        cases hq_2 : (chkH tab fs θ P.2.2.2.2.1 A) with
        | false =>
          try dsimp only [cond_false, cond_true]
          all_goals rfl
        | true =>
          try dsimp only [cond_false, cond_true]
          all_goals
            cases hq_3 : (chkT tab fs θ P.2.1) with
            | false =>
              try dsimp only [cond_false, cond_true]
              all_goals rfl
            | true =>
              try dsimp only [cond_false, cond_true]
              all_goals
                cases hq_4 : (chkF tab fs θ P.2.2.1) with
                | false =>
                  try dsimp only [cond_false, cond_true]
                  all_goals rfl
                | true =>
                  try dsimp only [cond_false, cond_true]
                  all_goals rfl
noncomputable def thOf (tab : Tb) (fs : List Ln) (P : Pt) (vs : List AV) (A : AH) (pr : List PD) : Un :=
  (uniP tab fs pr (uniH (uniVs un0 P.2.2.2.1 vs) P.2.2.2.2.1 A) P.2.2.2.2.2)
theorem thOf_def (tab : Tb) (fs : List Ln) (P : Pt) (vs : List AV) (A : AH) (pr : List PD) : thOf tab fs P vs A pr = uniP tab fs pr (uniH (uniVs un0 P.2.2.2.1 vs) P.2.2.2.2.1 A) P.2.2.2.2.2 := by
  show (uniP tab fs pr (uniH (uniVs un0 P.2.2.2.1 vs) P.2.2.2.2.1 A) P.2.2.2.2.2) = _
  all_goals rfl
section PAT
variable {ρ : Nat → Int} {tab : Tb} {fs : List Ln} {θ : Th}
noncomputable abbrev thE (ρ : Nat → Int) (θ : Th) : Nat → Int := fun s => ev ρ (θ s)
theorem eqLθ (ht : tOk ρ tab) (hf : fOk ρ fs) {e e' : Ln} (h : eqL tab fs (sbL θ e) e' = true) : ev (thE ρ θ) e = ev ρ e' := by
  rw [← eqL_ok ht hf h, ev_sb]
theorem chkV_ok (ht : tOk ρ tab) (hf : fOk ρ fs) {v : Value} {p a : AV} (ha : vrel ρ v a) (h : chkV tab fs θ p a = true) : vrel (thE ρ θ) v p := by
  rw [chkV_def] at h
  split at h
  · rename_i b e b' e'
    cases hb : lnB b b' with
    | false => rw [hb] at h; cases h
    | true =>
      rw [hb] at h
      have := lnB_eq hb
      subst this
      cases b with
      | false => obtain ⟨x, e1, e2⟩ := ha; exact ⟨x, e1, e2.trans (eqLθ ht hf h).symm⟩
      | true => obtain ⟨x, e1, e2⟩ := ha; exact ⟨x, e1, e2.trans (eqLθ ht hf h).symm⟩
  · rename_i i j
    have := Nat.eq_of_beq_eq_true h
    subst this
    exact ha
  · exact ha
  · cases h
theorem chkVs_ok (ht : tOk ρ tab) (hf : fOk ρ fs) {vs : List Value} {ps as : List AV} (ha : rel2 (vrel ρ) vs as) (h : chkVs tab fs θ ps as = true) : rel2 (vrel (thE ρ θ)) vs ps := by
  induction ps generalizing vs as with
  | nil =>
    cases as with
    | nil => rw [rel2_nil ha]; exact trivial
    | cons a r => cases h
  | cons p r ih =>
    cases as with
    | nil => cases h
    | cons a q =>
      rw [chkVs_def] at h
      try dsimp only at h
      cases hc : chkV tab fs θ p a with
      | false => rw [hc] at h; cases h
      | true =>
        rw [hc] at h
        obtain ⟨v, vs', e, h1, h2⟩ := rel2_cons ha
        subst e
        exact ⟨chkV_ok ht hf h1 hc, ih h2 h⟩
theorem srel_zero {ρ : Nat → Int} {lo hi : Int} {r : List Sg} {l : List Int32} (h : srel ρ r l) : srel ρ (.inr (0, lo, hi) :: r) l := ⟨[], l, rfl, rfl, fun x hx => (by cases hx), h⟩
theorem srel_zero' {ρ : Nat → Int} {lo hi : Int} {r : List Sg} {l : List Int32} (h : srel ρ (.inr (0, lo, hi) :: r) l) : srel ρ r l := by
  obtain ⟨l1, l2, e1, e2, e3, e4⟩ := h
  have := List.length_eq_zero_iff.mp e2
  subst this
  subst e1
  exact e4
theorem srel_split {ρ : Nat → Int} {m k : Nat} {lo hi : Int} {r : List Sg} {l : List Int32} (h : srel ρ (.inr (m + k, lo, hi) :: r) l) : ∃ l1 l2, l = l1 ++ l2 ∧ l1.length = m ∧ (∀ x ∈ l1, lo ≤ x.toInt ∧ x.toInt ≤ hi) ∧ srel ρ (.inr (k, lo, hi) :: r) l2 := by
  obtain ⟨l1, l2, e1, e2, e3, e4⟩ := h
  subst e1
  refine ⟨l1.take m, l1.drop m ++ l2, by rw [← List.append_assoc, List.take_append_drop], by rw [List.length_take]; omega, fun x hx => e3 x (List.mem_of_mem_take hx), l1.drop m, l2, rfl, by rw [List.length_drop]; omega, fun x hx => e3 x (List.mem_of_mem_drop hx), e4⟩
theorem srel_join {ρ : Nat → Int} {m k : Nat} {lo hi : Int} {r : List Sg} {l1 l2 : List Int32} (h1 : l1.length = m) (h2 : ∀ x ∈ l1, lo ≤ x.toInt ∧ x.toInt ≤ hi) (h : srel ρ (.inr (k, lo, hi) :: r) l2) : srel ρ (.inr (m + k, lo, hi) :: r) (l1 ++ l2) := by
  obtain ⟨l3, l4, e1, e2, e3, e4⟩ := h
  subst e1
  refine ⟨l1 ++ l3, l4, by rw [List.append_assoc], by rw [List.length_append]; omega, fun x hx => ?_, e4⟩
  rcases List.mem_append.mp hx with q | q
  · exact h2 x q
  · exact e3 x q
theorem sgLe_ok (ht : tOk ρ tab) (hf : fOk ρ fs) : ∀ (n : Nat) (p a : List Sg) (l : List Int32), sgLe tab fs θ n p a = true → srel ρ a l → srel (thE ρ θ) p l := by
  intro n
  induction n with
  | zero => intro p a l h; cases h
  | succ n ih =>
    intro p a l h hl
    rw [sgLe_def] at h
    try dsimp only at h
    split at h
    · exact hl
    · rename_i e r e' q
      cases hc : eqL tab fs (sbL θ e) e' with
      | false => rw [hc] at h; cases h
      | true =>
        rw [hc] at h
        obtain ⟨x, l', e1, e2, h3⟩ := hl
        exact ⟨x, l', e1, e2.trans (eqLθ ht hf hc).symm, ih _ _ _ h h3⟩
    · rename_i e r m lo hi q
      split at h
      · exact ih _ _ _ h (srel_zero' hl)
      · rename_i m
        cases hc : eqI lo hi with
        | false => rw [hc] at h; cases h
        | true =>
          rw [hc] at h
          cases hd : eqL tab fs (sbL θ e) (kL lo) with
          | false => rw [hd] at h; cases h
          | true =>
            rw [hd] at h
            have := eqI_eq hc
            subst this
            rw [show Nat.succ m = 1 + m by omega] at hl
            obtain ⟨l1, l2, e1, e2, e3, e4⟩ := srel_split hl
            match l1, e2 with
            | [x], _ =>
              have e5 := e3 x List.mem_cons_self
              exact ⟨x, l2, e1, by rw [eqLθ ht hf hd, ev_k]; omega, ih _ _ _ h e4⟩
    · rename_i m lo hi r
      cases hc : Nat.beq m 0 with
      | false => rw [hc] at h; cases h
      | true =>
        rw [hc] at h
        have := Nat.eq_of_beq_eq_true hc
        subst this
        exact srel_zero (ih _ _ _ h hl)
    · rename_i m lo hi q
      cases hc : Nat.beq m 0 with
      | false => rw [hc] at h; cases h
      | true =>
        rw [hc] at h
        have := Nat.eq_of_beq_eq_true hc
        subst this
        exact ih _ _ _ h (srel_zero' hl)
    · rename_i m lo hi r e' q
      split at h
      · exact srel_zero (ih _ _ _ h hl)
      · rename_i m
        cases hc : inF tab fs lo hi e' with
        | false => rw [hc] at h; cases h
        | true =>
          rw [hc] at h
          obtain ⟨x, l', e1, e2, h3⟩ := hl
          have e5 := inF_ok ht hf hc
          subst e1
          rw [show Nat.succ m = 1 + m by omega]
          exact srel_join (l1 := [x]) rfl (fun y hy => by rw [List.mem_singleton.mp hy, e2]; exact e5) (ih _ _ _ h h3)
    · rename_i m lo hi r m' lo' hi' q
      cases hc : (bif Nat.beq m' 0 then true else bif Nat.beq m 0 then true else bif leI lo lo' then leI hi' hi else false) with
      | false => rw [hc] at h; cases h
      | true =>
        rw [hc] at h
        have fit : ∀ (k : Nat) (l1 : List Int32), l1.length = k → k ≤ m → k ≤ m' → (∀ x ∈ l1, lo' ≤ x.toInt ∧ x.toInt ≤ hi') → ∀ x ∈ l1, lo ≤ x.toInt ∧ x.toInt ≤ hi := by
          intro k l1 hk h1 h2 hx x hxm
          have hpos : 0 < l1.length := List.length_pos_of_mem hxm
          cases z1 : Nat.beq m' 0 with
          | true => have := Nat.eq_of_beq_eq_true z1; omega
          | false =>
            cases z2 : Nat.beq m 0 with
            | true => have := Nat.eq_of_beq_eq_true z2; omega
            | false =>
              rw [z1, z2] at hc
              simp only [cond_false] at hc
              cases z3 : leI lo lo' with
              | false => rw [z3] at hc; cases hc
              | true =>
                rw [z3] at hc
                have q1 := leI_le z3
                have q2 := leI_le hc
                have q3 := hx x hxm
                omega
        simp only [cond_true] at h
        cases hd : Nat.ble m m' with
        | true =>
          rw [hd] at h
          have hle := Nat.le_of_ble_eq_true hd
          simp only [cond_true] at h
          cases he : Nat.beq m m' with
          | true =>
            rw [he] at h
            have := Nat.eq_of_beq_eq_true he
            subst this
            obtain ⟨l1, l2, e1, e2, e3, e4⟩ := hl
            exact ⟨l1, l2, e1, e2, fit m l1 e2 (Nat.le_refl _) (Nat.le_refl _) e3, ih _ _ _ h e4⟩
          | false =>
            rw [he] at h
            have e0 : m' = m + Nat.sub m' m := by show m' = m + (m' - m); omega
            rw [e0] at hl
            obtain ⟨l1, l2, e1, e2, e3, e4⟩ := srel_split hl
            exact ⟨l1, l2, e1, e2, fit m l1 e2 (Nat.le_refl _) hle e3, ih _ _ _ h e4⟩
        | false =>
          rw [hd] at h
          have hlt : m' < m := Nat.lt_of_not_le fun q => by rw [Nat.ble_eq_true_of_le q] at hd; cases hd
          obtain ⟨l1, l2, e1, e2, e3, e4⟩ := hl
          subst e1
          have e0 : m = m' + Nat.sub m m' := by show m = m' + (m - m'); omega
          rw [e0]
          exact srel_join e2 (fit m' l1 e2 (by omega) (Nat.le_refl _) e3) (ih _ _ _ h e4)
    · cases h
theorem eqO_eq {a b : List (Option Nat)} (h : eqO a b = true) : a = b := by
  induction a generalizing b with
  | nil => cases b with
    | nil => rfl
    | cons q r => cases h
  | cons p r ih => cases b with
    | nil => cases p <;> cases h
    | cons q r' =>
      cases p with
      | none => cases q with
        | none => rw [ih h]
        | some j => cases h
      | some i => cases q with
        | none => cases h
        | some j =>
          rw [eqO_def] at h
          try dsimp only at h
          cases h1 : Nat.beq i j with
          | false => rw [h1] at h; cases h
          | true => rw [h1] at h; rw [Nat.eq_of_beq_eq_true h1, ih h]
theorem eqN_eq {a b : List Nat} (h : eqN a b = true) : a = b := by
  induction a generalizing b with
  | nil => cases b with
    | nil => rfl
    | cons q r => cases h
  | cons p r ih => cases b with
    | nil => cases h
    | cons q r' =>
      rw [eqN_def] at h
      try dsimp only at h
      cases h1 : Nat.beq p q with
      | false => rw [h1] at h; cases h
      | true => rw [h1] at h; rw [Nat.eq_of_beq_eq_true h1, ih h]
theorem chkC_ok (ht : tOk ρ tab) (hf : fOk ρ fs) {c : SC} {p a : AC} (ha : crel ρ c a) (h : chkC tab fs θ p a = true) : crel (thE ρ θ) c p := by
  rw [chkC_def] at h
  split at h
  · rename_i k l k' l'
    cases hb : Nat.beq k k' with
    | false => rw [hb] at h; cases h
    | true =>
      rw [hb] at h
      rw [Nat.eq_of_beq_eq_true hb]
      obtain ⟨f, e1, e2⟩ := ha
      exact ⟨f, e1, chkVs_ok ht hf e2 h⟩
  · rename_i k l k' l'
    cases hb : Nat.beq k k' with
    | false => rw [hb] at h; cases h
    | true =>
      rw [hb] at h
      have hkk := Nat.eq_of_beq_eq_true hb
      subst hkk
      have ha' : arel ρ k l' c := ha
      show arel (thE ρ θ) k l c
      unfold arel at ha' ⊢
      cases hk : Nat.blt k 100 with
      | true =>
        rw [hk] at h
        simp only [cond_true] at h
        rw [if_pos (blt_iff.mp hk)] at ha' ⊢
        obtain ⟨f, e1, e2⟩ := ha'
        exact ⟨f, e1, sgLe_ok ht hf _ _ _ _ h e2⟩
      | false =>
        rw [hk] at h
        have hn : ¬ k < 100 := Nat.not_lt.mpr (blt_f hk)
        rw [if_neg hn] at ha' ⊢
        obtain ⟨f, e1, e2⟩ := ha'
        refine ⟨f, e1, ?_⟩
        simp only [cond_true, cond_false] at h
        rw [conLe_def] at h
        split at h
        · exact Eq.trans e2 (eqLθ ht hf h).symm
        · cases h
  · rename_i k l k' l'
    cases hb : Nat.beq k k' with
    | false => rw [hb] at h; cases h
    | true =>
      rw [hb] at h
      rw [Nat.eq_of_beq_eq_true hb]
      obtain ⟨f, e1, e2⟩ := ha
      simp only [cond_true] at h
      cases hc : Nat.beq l l' with
      | true => exact ⟨f, e1, by rw [Nat.eq_of_beq_eq_true hc]; exact e2⟩
      | false =>
        rw [hc, cond_false] at h
        cases hd : Nat.blt l zB with
        | false => rw [hd] at h; cases h
        | true =>
          rw [hd, cond_true] at h
          have e3 : l' = Nat.add zB l := Nat.eq_of_beq_eq_true h
          have hd' := blt_iff.mp hd
          refine ⟨f, e1, ?_, fun h2 => by rw [hd] at h2; cases h2⟩
          rw [e2.1, e3, jLen_add hd', jLen_lt hd]
  · rename_i k l k' l'
    cases hb : Nat.beq k k' with
    | false => rw [hb] at h; cases h
    | true =>
      rw [hb] at h
      rw [Nat.eq_of_beq_eq_true hb, eqO_eq h]
      exact ha
  · cases h
theorem chkH_ok (ht : tOk ρ tab) (hf : fOk ρ fs) {σ : SH} {ps as : AH} (ha : rel2 (crel ρ) σ as) (h : chkH tab fs θ ps as = true) : rel2 (crel (thE ρ θ)) σ ps := by
  induction ps generalizing σ as with
  | nil =>
    cases as with
    | nil => rw [rel2_nil ha]; exact trivial
    | cons a r => cases h
  | cons p r ih =>
    cases as with
    | nil => cases h
    | cons a q =>
      rw [chkH_def] at h
      try dsimp only at h
      cases hc : chkC tab fs θ p a with
      | false => rw [hc] at h; cases h
      | true =>
        rw [hc] at h
        obtain ⟨v, vs', e, h1, h2⟩ := rel2_cons ha
        subst e
        exact ⟨chkC_ok ht hf h1 hc, ih h2 h⟩
theorem chkN_ok (ht : tOk ρ tab) (hf : fOk ρ fs) {ps as : List Ln} (h : chkN tab fs θ ps as = true) : ps.map (ev (thE ρ θ)) = as.map (ev ρ) := by
  induction ps generalizing as with
  | nil =>
    cases as with
    | nil => rfl
    | cons a r => cases h
  | cons p r ih =>
    cases as with
    | nil => cases h
    | cons a q =>
      rw [chkN_def] at h
      try dsimp only at h
      cases h1 : eqL tab fs (sbL θ p) a with
      | false => rw [h1] at h; cases h
      | true =>
        rw [h1] at h
        rw [List.map_cons, List.map_cons, ih h, eqLθ ht hf h1]
theorem hasP_mem (ht : tOk ρ tab) (hf : fOk ρ fs) {p : PD} {a : List PD} (h : hasP tab fs θ p a = true) : ∃ q ∈ a, p.1 = q.1 ∧ p.2.1 = q.2.1 ∧ p.2.2.map (ev (thE ρ θ)) = q.2.2.map (ev ρ) := by
  induction a with
  | nil => cases h
  | cons q r ih =>
    rw [hasP_def] at h
    try dsimp only at h
    cases h1 : (bif Nat.beq p.1 q.1 then (bif eqN p.2.1 q.2.1 then chkN tab fs θ p.2.2 q.2.2 else false) else false) with
    | false =>
      rw [h1] at h
      obtain ⟨q', q1, q2⟩ := ih h
      exact ⟨q', List.mem_cons_of_mem _ q1, q2⟩
    | true =>
      cases h2 : Nat.beq p.1 q.1 with
      | false => rw [h2] at h1; cases h1
      | true =>
        rw [h2] at h1
        cases h3 : eqN p.2.1 q.2.1 with
        | false => rw [h3] at h1; cases h1
        | true =>
          rw [h3] at h1
          exact ⟨q, List.mem_cons_self, Nat.eq_of_beq_eq_true h2, eqN_eq h3, chkN_ok ht hf h1⟩
theorem chkP_ok (ht : tOk ρ tab) (hf : fOk ρ fs) {a ps : List PD} (h : chkP tab fs θ a ps = true) : ∀ p ∈ ps, ∃ q ∈ a, p.1 = q.1 ∧ p.2.1 = q.2.1 ∧ p.2.2.map (ev (thE ρ θ)) = q.2.2.map (ev ρ) := by
  induction ps with
  | nil => intro p hp; cases hp
  | cons q r ih =>
    rw [chkP_def] at h
    try dsimp only at h
    cases h1 : hasP tab fs θ q a with
    | false => rw [h1] at h; cases h
    | true =>
      rw [h1] at h
      intro p hp
      rcases List.mem_cons.mp hp with rfl | hp
      · exact hasP_mem ht hf h1
      · exact ih h p hp
theorem chkT_ok (ht : tOk ρ tab) (hf : fOk ρ fs) {ps : TbL} (h : chkT tab fs θ ps = true) : tOkL (thE ρ θ) ps := by
  induction ps with
  | nil => intro p hp; cases hp
  | cons q r ih =>
    obtain ⟨s, lo, hi⟩ := q
    rw [chkT_def] at h
    try dsimp only at h
    cases h1 : inF tab fs lo hi (θ s) with
    | false => rw [h1] at h; cases h
    | true =>
      rw [h1] at h
      intro p hp
      rcases List.mem_cons.mp hp with rfl | hp
      · exact inF_ok ht hf h1
      · exact ih h p hp
theorem chkF_ok (ht : tOk ρ tab) (hf : fOk ρ fs) {ps : List Ln} (h : chkF tab fs θ ps = true) : fOk (thE ρ θ) ps := by
  induction ps with
  | nil => intro p hp; cases hp
  | cons q r ih =>
    rw [chkF_def] at h
    try dsimp only at h
    cases h1 : le0 tab fs (sbL θ q) with
    | false => rw [h1] at h; cases h
    | true =>
      rw [h1] at h
      intro p hp
      rcases List.mem_cons.mp hp with rfl | hp
      · have := le0_ok ht hf h1
        rw [ev_sb] at this
        exact this
      · exact ih h p hp
theorem instP_ok {PP : Nat → List (List Int32) → List Int → Prop} {P : Pt} {vs : List AV} {A : AH} {pr : List PD} {cvs : List Value} {σ : SH} (ht : tOk ρ tab) (hf : fOk ρ fs) (hv : rel2 (vrel ρ) cvs vs) (hA : rel2 (crel ρ) σ A) (hp : prOk PP ρ σ pr) (h : instP tab fs θ P vs A pr = true) : PtOk PP (thE ρ θ) P cvs σ := by
  rw [instP_def] at h
  cases h1 : chkVs tab fs θ P.2.2.2.1 vs with
  | false => rw [h1] at h; cases h
  | true =>
    rw [h1] at h
    cases h2 : chkH tab fs θ P.2.2.2.2.1 A with
    | false => rw [h2] at h; cases h
    | true =>
      rw [h2] at h
      cases h3 : chkT tab fs θ P.2.1 with
      | false => rw [h3] at h; cases h
      | true =>
        rw [h3] at h
        cases h4 : chkF tab fs θ P.2.2.1 with
        | false => rw [h4] at h; cases h
        | true =>
          rw [h4] at h
          exact ⟨chkT_ok ht hf h3, chkF_ok ht hf h4, chkVs_ok ht hf hv h1, chkH_ok ht hf hA h2, fun p hq => (by
            obtain ⟨q, q1, q2, q3, q4⟩ := chkP_ok ht hf h p hq
            rw [q2, q3, q4]
            exact hp q q1)⟩
end PAT
-- which symbols a pattern speaks of
noncomputable def scP (P : Pt) : Bool := P.2.1.all (fun q => Nat.blt q.1 P.1) && (P.2.2.1.all (scL P.1) && (P.2.2.2.1.all (scV P.1) && (P.2.2.2.2.1.all (scC P.1) && P.2.2.2.2.2.all (fun p => p.2.2.all (scL P.1)))))
section SC
variable {n : Nat} {ρ ρ' : Nat → Int}
theorem scV_ok (ha : agr2 n ρ ρ') {v : Value} {a : AV} (hs : scV n a = true) (h : vrel ρ v a) : vrel ρ' v a := by
  match a, h with
  | .inl (false, e), ⟨x, e1, e2⟩ => exact ⟨x, e1, e2.trans (scL_ev ha hs).symm⟩
  | .inl (true, e), ⟨x, e1, e2⟩ => exact ⟨x, e1, e2.trans (scL_ev ha hs).symm⟩
  | .inr (.inl (some i)), e1 => exact e1
  | .inr (.inl none), e1 => exact e1
  | .inr (.inr (p, q)), e1 =>
    have hs' : (bif scL n p then scL n q else false) = true := hs
    cases h1 : scL n p with
    | false => rw [h1] at hs'; cases hs'
    | true =>
      rw [h1] at hs'
      show v = .int (cmpZ (ev ρ' p) (ev ρ' q))
      rw [scL_ev ha h1, scL_ev ha hs']
      exact e1
theorem rel2_all {α β : Type} {R R' : α → β → Prop} {f : β → Bool} (hi : ∀ a b, f b = true → R a b → R' a b) {l : List α} {r : List β} (hr : r.all f = true) (h : rel2 R l r) : rel2 R' l r := by
  induction r generalizing l with
  | nil => rw [rel2_nil h]; exact trivial
  | cons b r ih =>
    obtain ⟨a, l', e, h1, h2⟩ := rel2_cons h
    subst e
    rw [List.all_cons, Bool.and_eq_true] at hr
    exact ⟨hi a b hr.1 h1, ih hr.2 h2⟩
theorem scS_ok (ha : agr2 n ρ ρ') {s : List Sg} {l : List Int32} (hs : s.all (scS n) = true) (h : srel ρ s l) : srel ρ' s l := by
  induction s generalizing l with
  | nil => exact h
  | cons q r ih =>
    rw [List.all_cons, Bool.and_eq_true] at hs
    match q, h, hs with
    | .inl e, ⟨x, l', e1, e2, h2⟩, hs => exact ⟨x, l', e1, e2.trans (scL_ev ha hs.1).symm, ih hs.2 h2⟩
    | .inr (m, lo, hi), ⟨l1, l2, e1, e2, e3, h2⟩, hs => exact ⟨l1, l2, e1, e2, e3, ih hs.2 h2⟩
theorem scC_ok (ha : agr2 n ρ ρ') {c : SC} {a : AC} (hs : scC n a = true) (h : crel ρ c a) : crel ρ' c a := by
  match a, h with
  | .inl (ci, as), ⟨fs, e, h'⟩ => exact ⟨fs, e, rel2_all (f := scV n) (R' := vrel ρ') (fun _ _ q r => scV_ok ha q r) hs h'⟩
  | .inr (k, .inl s), h =>
    have h' : arel ρ k s c := h
    show arel ρ' k s c
    unfold arel at h' ⊢
    split at h'
    · rename_i hk
      rw [if_pos hk]
      obtain ⟨l, e, h2⟩ := h'
      exact ⟨l, e, scS_ok ha hs h2⟩
    · rename_i hk
      rw [if_neg hk]
      obtain ⟨l, e, h2⟩ := h'
      refine ⟨l, e, ?_⟩
      match s, hs, h2 with
      | [.inl e], hs, h2 =>
        have hs' : ([Sum.inl e] : List Sg).all (scS n) = true := hs
        simp only [List.all_cons, List.all_nil, Bool.and_true] at hs'
        exact Eq.trans h2 (scL_ev ha hs').symm
  | .inr (k, .inr (.inl m)), ⟨l, e, h'⟩ => exact ⟨l, e, h'⟩
  | .inr (k, .inr (.inr q)), e => exact e
end SC
theorem prOk_agr {PP : Nat → List (List Int32) → List Int → Prop} {n : Nat} {ρ ρ' : Nat → Int} {σ : SH} {pr : List PD} (ha : agr2 n ρ ρ') (hs : pr.all (fun p => p.2.2.all (scL n)) = true) (h : prOk PP ρ σ pr) : prOk PP ρ' σ pr := fun p hp => by
  have e : p.2.2.map (ev ρ') = p.2.2.map (ev ρ) := List.map_congr_left fun e he => scL_ev ha (List.all_eq_true.mp (List.all_eq_true.mp hs p hp) e he)
  rw [e]
  exact h p hp
theorem PtOk_agr {PP : Nat → List (List Int32) → List Int → Prop} {P : Pt} {ρ ρ' : Nat → Int} {vs : List Value} {σ : SH} (hs : scP P = true) (ha : agr2 P.1 ρ ρ') (h : PtOk PP ρ P vs σ) : PtOk PP ρ' P vs σ := by
  unfold scP at hs
  simp only [Bool.and_eq_true] at hs
  obtain ⟨s1, s2, s3, s4, s5⟩ := hs
  obtain ⟨h1, h2, h3, h4, h5⟩ := h
  refine ⟨fun q hq => ?_, fun f hf => ?_, rel2_all (f := scV P.1) (R' := vrel ρ') (fun _ _ q r => scV_ok ha q r) s3 h3, rel2_all (f := scC P.1) (R' := crel ρ') (fun _ _ q r => scC_ok ha q r) s4 h4, prOk_agr ha s5 h5⟩
  · rw [ha q.1 (blt_iff.mp (List.all_eq_true.mp s1 q hq))]
    exact h1 q hq
  · rw [scL_ev ha (List.all_eq_true.mp s2 f hf)]
    exact h2 f hf
-- the same text: the same
theorem eqLn_eq {a b : Ln} (h : eqLn a b = true) : a = b := by
  rw [eqLn_def] at h
  obtain ⟨h1, h2⟩ := cand0 h
  obtain ⟨a1, a2⟩ := a
  obtain ⟨b1, b2⟩ := b
  have e1 : a1 = b1 := eqI_eq h1
  have e2 : a2 = b2 := eqT_eq h2
  rw [e1, e2]
theorem eqAV_eq {p a : AV} (h : eqAV p a = true) : p = a := by
  rw [eqAV_def] at h
  split at h
  · obtain ⟨h1, h2⟩ := cand0 h
    rw [lnB_eq h1, eqLn_eq h2]
  · rw [Nat.eq_of_beq_eq_true h]
  · rfl
  · cases h
theorem eqAVs_eq : ∀ {p a : List AV}, eqAVs p a = true → p = a := by
  intro p
  induction p with
  | nil => intro a h; cases a with
    | nil => rfl
    | cons x y => rw [eqAVs_def] at h; cases h
  | cons x r ih => intro a h; cases a with
    | nil => rw [eqAVs_def] at h; cases h
    | cons y q =>
      rw [eqAVs_def] at h
      obtain ⟨h1, h2⟩ := cand0 h
      rw [eqAV_eq h1, ih h2]
theorem eqSg_eq {p a : Sg} (h : eqSg p a = true) : p = a := by
  rw [eqSg_def] at h
  split at h
  · rw [eqLn_eq h]
  · obtain ⟨h1, h2⟩ := cand0 h
    obtain ⟨h3, h4⟩ := cand0 h2
    rw [Nat.eq_of_beq_eq_true h1, eqI_eq h3, eqI_eq h4]
  · cases h
theorem eqSgs_eq : ∀ {p a : List Sg}, eqSgs p a = true → p = a := by
  intro p
  induction p with
  | nil => intro a h; cases a with
    | nil => rfl
    | cons x y => rw [eqSgs_def] at h; cases h
  | cons x r ih => intro a h; cases a with
    | nil => rw [eqSgs_def] at h; cases h
    | cons y q =>
      rw [eqSgs_def] at h
      obtain ⟨h1, h2⟩ := cand0 h
      rw [eqSg_eq h1, ih h2]
theorem eqAC_eq {p a : AC} (h : eqAC p a = true) : p = a := by
  rw [eqAC_def] at h
  split at h
  · obtain ⟨h1, h2⟩ := cand0 h
    rw [Nat.eq_of_beq_eq_true h1, eqAVs_eq h2]
  · obtain ⟨h1, h2⟩ := cand0 h
    rw [Nat.eq_of_beq_eq_true h1, eqSgs_eq h2]
  · obtain ⟨h1, h2⟩ := cand0 h
    rw [Nat.eq_of_beq_eq_true h1, Nat.eq_of_beq_eq_true h2]
  · obtain ⟨h1, h2⟩ := cand0 h
    rw [Nat.eq_of_beq_eq_true h1, eqO_eq h2]
  · cases h
theorem rigF_lt {n : Nat} {f : Th} {s : Nat} (h : s < n) : rigF n f s = sL s := by
  rw [rigF_def]
  rw [blt_iff.mpr h]
  rfl
theorem rigF_agr {n : Nat} {f : Th} (ρ : Nat → Int) : agr2 n ρ (thE ρ (rigF n f)) := fun i hi => by
  show ev ρ (rigF n f i) = ρ i
  rw [rigF_lt hi, ev_s]
theorem withR_ok {n : Nat} {θ : Un} {k : Th → Bool} (h : withR n θ k = true) : ∃ f, k (rigF n f) = true := by
  rw [withR_def] at h
  split at h
  exact ⟨_, h⟩
theorem chkHR_ok {ρ : Nat → Int} {tab : Tb} {fs : List Ln} {n : Nat} {f : Th} (ht : tOk ρ tab) (hf : fOk ρ fs) {σ : SH} : ∀ {ps as : AH}, rel2 (crel ρ) σ as → chkHR n tab fs (rigF n f) ps as = true → rel2 (crel (thE ρ (rigF n f))) σ ps := by
  intro ps
  induction ps generalizing σ with
  | nil =>
    intro as ha h
    cases as with
    | nil => rw [rel2_nil ha]; exact trivial
    | cons a q => rw [chkHR_def] at h; cases h
  | cons p r ih =>
    intro as ha h
    cases as with
    | nil => rw [chkHR_def] at h; cases h
    | cons a q =>
      rw [chkHR_def] at h
      obtain ⟨h1, h2⟩ := cand0 h
      obtain ⟨c, σ', e, hc, hr⟩ := rel2_cons ha
      subst e
      refine ⟨?_, ih hr h2⟩
      cases hq : qC n p a with
      | false => rw [hq] at h1; exact chkC_ok ht hf hc h1
      | true =>
        rw [qC_def] at hq
        obtain ⟨q1, q2⟩ := cand0 hq
        have e := eqAC_eq q1
        subst e
        exact scC_ok (rigF_agr ρ) q2 hc
theorem instPR_ok {PP : Nat → List (List Int32) → List Int → Prop} {ρ : Nat → Int} {tab : Tb} {fs : List Ln} {n : Nat} {f : Th} {P : Pt} {vs : List AV} {A : AH} {pr : List PD} {cvs : List Value} {σ : SH} (ht : tOk ρ tab) (hf : fOk ρ fs) (hv : rel2 (vrel ρ) cvs vs) (hA : rel2 (crel ρ) σ A) (hp : prOk PP ρ σ pr) (h : instPR n tab fs (rigF n f) P vs A pr = true) : PtOk PP (thE ρ (rigF n f)) P cvs σ := by
  rw [instPR_def] at h
  obtain ⟨h1, h⟩ := cand0 h
  obtain ⟨h2, h⟩ := cand0 h
  obtain ⟨h3, h⟩ := cand0 h
  obtain ⟨h4, h5⟩ := cand0 h
  refine ⟨chkT_ok ht hf h3, chkF_ok ht hf h4, chkVs_ok ht hf hv h1, chkHR_ok ht hf hA h2, fun p hp' => ?_⟩
  obtain ⟨q, q1, q2, q3, q4⟩ := chkP_ok ht hf h5 p hp'
  rw [q2, q3, q4]
  exact hp q q1
theorem isS1_eq {e : Ln} (h : isS1 e = true) : e = sL (fstS e) := by
  obtain ⟨c, ts⟩ := e
  rw [isS1_def] at h
  try dsimp only at h
  split at h
  · rename_i s k
    obtain ⟨h1, h2⟩ := cand0 h
    have e1 := isZ_eq h1
    have e2 := eqI_eq h2
    subst e1
    subst e2
    rfl
  · cases h
theorem isSy_map {ρ : Nat → Int} {f : Th} {N : Nat} : ∀ (n i : Nat) (G : List Ln), i + n ≤ N → isSy n i G = true → G.map (ev (thE ρ (rigF N f))) = G.map (ev ρ) := by
  intro n
  induction n with
  | zero =>
    intro i G hN h
    cases G with
    | nil => rfl
    | cons e r => rw [isSy_def] at h; cases h
  | succ n ih =>
    intro i G hN h
    cases G with
    | nil => rw [isSy_def] at h; cases h
    | cons e r =>
      rw [isSy_def] at h
      obtain ⟨h1, h2⟩ := cand0 h
      obtain ⟨h3, h4⟩ := cand0 h1
      rw [List.map_cons, List.map_cons, ih (Nat.succ i) r (by omega) h2]
      have e1 := isS1_eq h3
      have e2 := Nat.eq_of_beq_eq_true h4
      rw [e1, ev_s, ev_s, e2]
      congr 1
      show ev ρ (rigF N f i) = ρ i
      rw [rigF_lt (by omega), ev_s]
theorem isSy_len : ∀ {n i : Nat} {G G' : List Ln}, isSy n i G = true → isSy n i G' = true → G = G' := by
  intro n
  induction n with
  | zero =>
    intro i G G' h h'
    cases G with
    | cons e r => rw [isSy_def] at h; cases h
    | nil => cases G' with
      | nil => rfl
      | cons e r => rw [isSy_def] at h'; cases h'
  | succ n ih =>
    intro i G G' h h'
    cases G with
    | nil => rw [isSy_def] at h; cases h
    | cons e r => cases G' with
      | nil => rw [isSy_def] at h'; cases h'
      | cons e' r' =>
        rw [isSy_def] at h h'
        obtain ⟨h1, h2⟩ := cand0 h
        obtain ⟨h3, h4⟩ := cand0 h1
        obtain ⟨h1', h2'⟩ := cand0 h'
        obtain ⟨h3', h4'⟩ := cand0 h1'
        rw [isS1_eq h3, isS1_eq h3', Nat.eq_of_beq_eq_true h4, Nat.eq_of_beq_eq_true h4', ih h2 h2']
