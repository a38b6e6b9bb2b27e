/-! ===== patterns: what is known at a place, in symbols of its own ===== -/
abbrev Pt : Type := Nat × TbL × List Ln × List AV × AH × List PD
noncomputable def PtOk (PP : Nat → List (List Int32) → List Int → Prop) (ρ : Nat → Int) (P : Pt) (vs : List Value) (σ : SH) : Prop :=
  tOkL ρ P.2.1 ∧ fOk ρ P.2.2.1 ∧ rel2 (vrel ρ) vs P.2.2.2.1 ∧ rel2 (crel ρ) σ P.2.2.2.2.1 ∧ prOk PP ρ σ P.2.2.2.2.2
-- the symbols' meaning, found by looking (what is found is checked below)
abbrev Un : Type := Nat × List (Nat × Ln)
noncomputable def un0 : Un := (0, [])
noncomputable def thHas (s : Nat) (θ : Un) : Bool :=
  (Nat.beq (Nat.land (Nat.shiftRight θ.1 s) (nat_lit 1)) (nat_lit 1))
theorem thHas_def (s : Nat) (θ : Un) : thHas s θ = Nat.beq (Nat.land (Nat.shiftRight θ.1 s) 1) 1 := by
  show (Nat.beq (Nat.land (Nat.shiftRight θ.1 s) (nat_lit 1)) (nat_lit 1)) = _
  all_goals rfl
noncomputable def insU (s : Nat) (e : Ln) : List (Nat × Ln) → List (Nat × Ln) :=
  fun e_0 => List.rec (motive := fun _ => List (Nat × Ln)) [(s, e)] (fun h_0 t_0 ih => (Prod.rec (motive := fun _ => List (Nat × Ln)) (fun t_947 x_948 => (Bool.rec (motive := fun _ => List (Nat × Ln)) ((t_947, x_948) :: (ih)) ((s, e) :: ((t_947, x_948) :: t_0)) (Nat.ble t_947 s))) h_0)) e_0 
theorem insU_def (s : Nat) (e : Ln) (e_0 : List (Nat × Ln)) : insU s e e_0 = (match e_0 with
  | [] => [(s, e)]
  | (t, x) :: r => bif Nat.ble t s then (s, e) :: (t, x) :: r else (t, x) :: insU s e r) := by
  cases e_0 with
  | nil =>
    show [(s, e)] = _
    try simp only [iAddQ_eq, iMulQ_eq, iNegQ_eq, lenQ_eq, nthQ_eq, setQ_eq, appQ_eq, mapQ_eq, allQ_eq, anyQ_eq, dropQ_eq, takeQ_eq, revQ_eq, getDQ_eq, optLQ_eq, brecC]
    all_goals rfl
  | cons h_0 t_0 =>
    show (Prod.rec (motive := fun _ => List (Nat × Ln)) (fun t_949 x_950 => (Bool.rec (motive := fun _ => List (Nat × Ln)) ((t_949, x_950) :: (insU s e t_0)) ((s, e) :: ((t_949, x_950) :: t_0)) (Nat.ble t_949 s))) h_0) = _
    try simp only [iAddQ_eq, iMulQ_eq, iNegQ_eq, lenQ_eq, nthQ_eq, setQ_eq, appQ_eq, mapQ_eq, allQ_eq, anyQ_eq, dropQ_eq, takeQ_eq, revQ_eq, getDQ_eq, optLQ_eq, brecC]
    all_goals
      cases h_0 with
      | mk y_951 y_952 =>
        try dsimp only [cond_false, cond_true]
        all_goals
          cases hq_2 : (Nat.ble y_951 s) with
          | false =>
            try dsimp only [cond_false, cond_true]
            all_goals rfl
          | true =>
            try dsimp only [cond_false, cond_true]
            all_goals rfl
noncomputable def uniL (θ : Un) (p a : Ln) : Un :=
  (List.rec (motive := fun _ => Un) θ (fun x_953 x_954 _ => (Prod.rec (motive := fun _ => Un) (fun s_955 k_956 => (List.rec (motive := fun _ => Un) (Bool.rec (motive := fun _ => Un) (Bool.rec (motive := fun _ => Un) θ ((Nat.lor θ.1 (Nat.shiftLeft (nat_lit 1) s_955)), (insU s_955 (Bool.rec (motive := fun _ => _) (pluL a (iNegQ p.1)) a (isZ p.1)) θ.2)) (eqI k_956 (.ofNat (nat_lit 1)))) θ (thHas s_955 θ)) (fun x_957 x_958 _ => θ) x_954)) x_953)) p.2)
theorem uniL_def (θ : Un) (p a : Ln) : uniL θ p a = (match p.2 with
  | [(s, k)] => bif thHas s θ then θ else bif eqI k 1 then (Nat.lor θ.1 (Nat.shiftLeft 1 s), insU s (bif isZ p.1 then a else pluL a (Int.neg p.1)) θ.2) else θ
  | _ => θ) := by
  show (List.rec (motive := fun _ => Un) θ (fun x_953 x_954 _ => (Prod.rec (motive := fun _ => Un) (fun s_955 k_956 => (List.rec (motive := fun _ => Un) (Bool.rec (motive := fun _ => Un) (Bool.rec (motive := fun _ => Un) θ ((Nat.lor θ.1 (Nat.shiftLeft (nat_lit 1) s_955)), (insU s_955 (Bool.rec (motive := fun _ => _) (pluL a (iNegQ p.1)) a (isZ p.1)) θ.2)) (eqI k_956 (.ofNat (nat_lit 1)))) θ (thHas s_955 θ)) (fun x_957 x_958 _ => θ) x_954)) x_953)) p.2) = _
  try simp only [iAddQ_eq, iMulQ_eq, iNegQ_eq, lenQ_eq, nthQ_eq, setQ_eq, appQ_eq, mapQ_eq, allQ_eq, anyQ_eq, dropQ_eq, takeQ_eq, revQ_eq, getDQ_eq, optLQ_eq, brecC]
  all_goals
    cases hq_1 : p.2 with
    | nil =>
      try dsimp only [cond_false, cond_true]
      all_goals rfl
    | cons y_959 y_960 =>
      try dsimp only [cond_false, cond_true]
      all_goals
        cases y_959 with
        | mk y_961 y_962 =>
          try dsimp only [cond_false, cond_true]
          all_goals
            cases y_960 with
            | nil =>
              try dsimp only [cond_false, cond_true]
              all_goals
                cases hq_4 : (thHas y_961 θ) with
                | false =>
                  try dsimp only [cond_false, cond_true]
                  all_goals
                    cases hq_5 : (eqI y_962 1) with
                    | false =>
                      try dsimp only [cond_false, cond_true]
                      all_goals rfl
                    | true =>
                      try dsimp only [cond_false, cond_true]
                      all_goals rfl
                | true =>
                  try dsimp only [cond_false, cond_true]
                  all_goals rfl
            | cons y_963 y_964 =>
              try dsimp only [cond_false, cond_true]
              all_goals rfl
noncomputable def thLk (s : Nat) : List (Nat × Ln) → Ln :=
  fun e_0 => List.rec (motive := fun _ => Ln) (sL s) (fun h_0 t_0 ih => (Prod.rec (motive := fun _ => Ln) (fun t_965 e_966 => (Bool.rec (motive := fun _ => Ln) (ih) e_966 (Nat.beq s t_965))) h_0)) e_0 
theorem thLk_def (s : Nat) (e_0 : List (Nat × Ln)) : thLk s e_0 = (match e_0 with
  | [] => sL s
  | (t, e) :: r => bif Nat.beq s t then e else thLk s r) := by
  cases e_0 with
  | nil =>
    show (sL s) = _
    try simp only [iAddQ_eq, iMulQ_eq, iNegQ_eq, lenQ_eq, nthQ_eq, setQ_eq, appQ_eq, mapQ_eq, allQ_eq, anyQ_eq, dropQ_eq, takeQ_eq, revQ_eq, getDQ_eq, optLQ_eq, brecC]
    all_goals rfl
  | cons h_0 t_0 =>
    show (Prod.rec (motive := fun _ => Ln) (fun t_967 e_968 => (Bool.rec (motive := fun _ => Ln) (thLk s t_0) e_968 (Nat.beq s t_967))) h_0) = _
    try simp only [iAddQ_eq, iMulQ_eq, iNegQ_eq, lenQ_eq, nthQ_eq, setQ_eq, appQ_eq, mapQ_eq, allQ_eq, anyQ_eq, dropQ_eq, takeQ_eq, revQ_eq, getDQ_eq, optLQ_eq, brecC]
    all_goals
      cases h_0 with
      | mk y_969 y_970 =>
        try dsimp only [cond_false, cond_true]
        all_goals
          cases hq_2 : (Nat.beq s y_969) with
          | false =>
            try dsimp only [cond_false, cond_true]
            all_goals rfl
          | true =>
            try dsimp only [cond_false, cond_true]
            all_goals rfl
/-- a list, the greatest first, as a function -/
noncomputable def balF  : Nat → List (Nat × Ln) → Nat × (Nat → Ln) × List (Nat × Ln) :=
  fun e_0 e_1 => Nat.rec (motive := fun _ => List (Nat × Ln) → Nat × (Nat → Ln) × List (Nat × Ln)) (fun e_1 => (List.rec (motive := fun _ => Nat × (Nat → Ln) × List (Nat × Ln)) ((nat_lit 0), (fun _ => (kL (.ofNat (nat_lit 0)))), []) (fun x_971 r_972 _ => (Prod.rec (motive := fun _ => Nat × (Nat → Ln) × List (Nat × Ln)) (fun s_973 e_974 => (s_973, (fun _ => e_974), r_972)) x_971)) e_1)) (fun t_0 ih e_1 => (Prod.rec (motive := fun _ => Nat × (Nat → Ln) × List (Nat × Ln)) (fun m_975 x_976 => (Prod.rec (motive := fun _ => Nat × (Nat → Ln) × List (Nat × Ln)) (fun f_977 x_978 => (List.rec (motive := fun _ => Nat × (Nat → Ln) × List (Nat × Ln)) (m_975, f_977, []) (fun q_979 r_980 _ => (Prod.rec (motive := fun _ => Nat × (Nat → Ln) × List (Nat × Ln)) (fun m2_981 x_982 => (Prod.rec (motive := fun _ => Nat × (Nat → Ln) × List (Nat × Ln)) (fun f2_983 r2_984 => (m2_981, (fun t => (Bool.rec (motive := fun _ => _) (f2_983 t) (f_977 t) (Nat.ble m_975 t))), r2_984)) x_982)) (ih (q_979 :: r_980)))) x_978)) x_976)) (ih e_1))) e_0 e_1
theorem balF_def  (e_0 : Nat) (e_1 : List (Nat × Ln)) : balF  e_0 e_1 = (match e_0, e_1 with
  | 0, [] => (0, fun _ => kL 0, [])
  | 0, (s, e) :: r => (s, fun _ => e, r)
  | n + 1, l => match balF n l with
    | (m, f, []) => (m, f, [])
    | (m, f, q :: r) => match balF n (q :: r) with
      | (m2, f2, r2) => (m2, fun t => bif Nat.ble m t then f t else f2 t, r2)) := by
  cases e_0 with
  | zero =>
    show (List.rec (motive := fun _ => Nat × (Nat → Ln) × List (Nat × Ln)) ((nat_lit 0), (fun _ => (kL (.ofNat (nat_lit 0)))), []) (fun x_985 r_986 _ => (Prod.rec (motive := fun _ => Nat × (Nat → Ln) × List (Nat × Ln)) (fun s_987 e_988 => (s_987, (fun _ => e_988), r_986)) x_985)) e_1) = _
    try simp only [iAddQ_eq, iMulQ_eq, iNegQ_eq, lenQ_eq, nthQ_eq, setQ_eq, appQ_eq, mapQ_eq, allQ_eq, anyQ_eq, dropQ_eq, takeQ_eq, revQ_eq, getDQ_eq, optLQ_eq, brecC]
    all_goals
      cases e_1 with
      | nil =>
        try dsimp only [cond_false, cond_true]
        all_goals rfl
      | cons y_989 y_990 =>
        try dsimp only [cond_false, cond_true]
        all_goals
          cases y_989 with
          | mk y_991 y_992 =>
            try dsimp only [cond_false, cond_true]
            all_goals rfl
  | succ t_0 =>
    show (Prod.rec (motive := fun _ => Nat × (Nat → Ln) × List (Nat × Ln)) (fun m_993 x_994 => (Prod.rec (motive := fun _ => Nat × (Nat → Ln) × List (Nat × Ln)) (fun f_995 x_996 => (List.rec (motive := fun _ => Nat × (Nat → Ln) × List (Nat × Ln)) (m_993, f_995, []) (fun q_997 r_998 _ => (Prod.rec (motive := fun _ => Nat × (Nat → Ln) × List (Nat × Ln)) (fun m2_999 x_1000 => (Prod.rec (motive := fun _ => Nat × (Nat → Ln) × List (Nat × Ln)) (fun f2_1001 r2_1002 => (m2_999, (fun t => (Bool.rec (motive := fun _ => _) (f2_1001 t) (f_995 t) (Nat.ble m_993 t))), r2_1002)) x_1000)) (balF t_0 (q_997 :: r_998)))) x_996)) x_994)) (balF t_0 e_1)) = _
    try simp only [iAddQ_eq, iMulQ_eq, iNegQ_eq, lenQ_eq, nthQ_eq, setQ_eq, appQ_eq, mapQ_eq, allQ_eq, anyQ_eq, dropQ_eq, takeQ_eq, revQ_eq, getDQ_eq, optLQ_eq, brecC]
    all_goals
      cases hq_3 : (balF t_0 e_1) with
      | mk y_1003 y_1004 =>
        try dsimp only [cond_false, cond_true]
        all_goals
          cases y_1004 with
          | mk y_1005 y_1006 =>
            try dsimp only [cond_false, cond_true]
            all_goals
              cases y_1006 with
              | nil =>
                try dsimp only [cond_false, cond_true]
                all_goals rfl
              | cons y_1007 y_1008 =>
                try dsimp only [cond_false, cond_true]
                all_goals
                  cases hq_6 : (balF t_0 ((y_1007 :: y_1008))) with
                  | mk y_1009 y_1010 =>
                    try dsimp only [cond_false, cond_true]
                    all_goals
                      cases y_1010 with
                      | mk y_1011 y_1012 =>
                        try dsimp only [cond_false, cond_true]
                        all_goals rfl
noncomputable def withF (θ : Un) (k : Th → Bool) : Bool :=
  (Prod.rec (motive := fun _ => Bool) (fun x_1013 x_1014 => (Prod.rec (motive := fun _ => Bool) (fun f_1015 x_1016 => (k f_1015)) x_1014)) (balF (nat_lit 9) θ.2))
theorem withF_def (θ : Un) (k : Th → Bool) : withF θ k = (match balF 9 θ.2 with
  | (_, f, _) => k f) := by
  show (Prod.rec (motive := fun _ => Bool) (fun x_1013 x_1014 => (Prod.rec (motive := fun _ => Bool) (fun f_1015 x_1016 => (k f_1015)) x_1014)) (balF (nat_lit 9) θ.2)) = _
  all_goals
    cases hq_1 : (balF 9 θ.2) with
    | mk y_1017 y_1018 =>
      try dsimp only [cond_false, cond_true]
      all_goals
        cases y_1018 with
        | mk y_1019 y_1020 =>
          try dsimp only [cond_false, cond_true]
          all_goals rfl
theorem withF_ok {θ : Un} {k : Th → Bool} (h : withF θ k = true) : ∃ f, k f = true := by
  rw [withF_def] at h
  split at h
  exact ⟨_, h⟩
noncomputable def uniV (θ : Un) (p a : AV) : Un :=
  (Sum.rec (motive := fun _ => Un) (fun x_1021 => (Prod.rec (motive := fun _ => Un) (fun x_1023 e_1024 => (Sum.rec (motive := fun _ => Un) (fun x_1025 => (Prod.rec (motive := fun _ => Un) (fun x_1027 e_1028 => (uniL θ e_1024 e_1028)) x_1025)) (fun x_1026 => θ) a)) x_1021)) (fun x_1022 => θ) p)
theorem uniV_def (θ : Un) (p a : AV) : uniV θ p a = (match p, a with
  | .inl (_, e), .inl (_, e') => uniL θ e e'
  | _, _ => θ) := by
  show (Sum.rec (motive := fun _ => Un) (fun x_1021 => (Prod.rec (motive := fun _ => Un) (fun x_1023 e_1024 => (Sum.rec (motive := fun _ => Un) (fun x_1025 => (Prod.rec (motive := fun _ => Un) (fun x_1027 e_1028 => (uniL θ e_1024 e_1028)) x_1025)) (fun x_1026 => θ) a)) x_1021)) (fun x_1022 => θ) p) = _
  all_goals
    cases p with
    | inl y_1029 =>
      try dsimp only [cond_false, cond_true]
      all_goals
        cases y_1029 with
        | mk y_1030 y_1031 =>
          try dsimp only [cond_false, cond_true]
          all_goals
            cases a with
            | inl y_1032 =>
              try dsimp only [cond_false, cond_true]
              all_goals
                cases y_1032 with
                | mk y_1033 y_1034 =>
                  try dsimp only [cond_false, cond_true]
                  all_goals rfl
            | inr y_1035 =>
              try dsimp only [cond_false, cond_true]
              all_goals rfl
    | inr y_1036 =>
      try dsimp only [cond_false, cond_true]
      all_goals rfl
noncomputable def uniVs  : Un → List AV → List AV → Un :=
  fun θ e_0 e_1 => List.rec (motive := fun _ => Un → List AV → Un) (fun θ e_1 => θ) (fun h_0 t_0 ih θ e_1 => (List.rec (motive := fun _ => Un) θ (fun a_1037 q_1038 _ => (ih (uniV θ h_0 a_1037) q_1038)) e_1)) e_0 θ e_1
theorem uniVs_def  (θ : Un) (e_0 : List AV) (e_1 : List AV) : uniVs  θ e_0 e_1 = (match e_0, e_1 with
  | p :: r, a :: q => uniVs (uniV θ p a) r q
  | _, _ => θ) := by
  cases e_0 with
  | nil =>
    show θ = _
    try simp only [iAddQ_eq, iMulQ_eq, iNegQ_eq, lenQ_eq, nthQ_eq, setQ_eq, appQ_eq, mapQ_eq, allQ_eq, anyQ_eq, dropQ_eq, takeQ_eq, revQ_eq, getDQ_eq, optLQ_eq, brecC]
    all_goals rfl
  | cons h_0 t_0 =>
    show (List.rec (motive := fun _ => Un) θ (fun a_1039 q_1040 _ => (uniVs (uniV θ h_0 a_1039) t_0 q_1040)) e_1) = _
    try simp only [iAddQ_eq, iMulQ_eq, iNegQ_eq, lenQ_eq, nthQ_eq, setQ_eq, appQ_eq, mapQ_eq, allQ_eq, anyQ_eq, dropQ_eq, takeQ_eq, revQ_eq, getDQ_eq, optLQ_eq, brecC]
    all_goals
      cases e_1 with
      | nil =>
        try dsimp only [cond_false, cond_true]
        all_goals rfl
      | cons y_1041 y_1042 =>
        try dsimp only [cond_false, cond_true]
        all_goals rfl
noncomputable def uniS  : Nat → Un → List Sg → List Sg → Un :=
  fun e_0 e_1 e_2 e_3 => Nat.rec (motive := fun _ => Un → List Sg → List Sg → Un) (fun e_1 e_2 e_3 => e_1) (fun t_0 ih e_1 e_2 e_3 => (List.rec (motive := fun _ => Un) e_1 (fun x_1043 r_1044 _ => (Sum.rec (motive := fun _ => Un) (fun e_1045 => (List.rec (motive := fun _ => Un) e_1 (fun x_1047 q_1048 _ => (Sum.rec (motive := fun _ => Un) (fun e_1049 => (ih (uniL e_1 e_1045 e_1049) r_1044 q_1048)) (fun x_1050 => (Prod.rec (motive := fun _ => Un) (fun m_1051 x_1052 => (Prod.rec (motive := fun _ => Un) (fun lo_1053 hi_1054 => (Nat.rec (motive := fun _ => Un) (ih e_1 ((.inl e_1045) :: r_1044) q_1048) (fun m_1055 _ => (ih (Bool.rec (motive := fun _ => Un) e_1 (uniL e_1 e_1045 (kL lo_1053)) (eqI lo_1053 hi_1054)) r_1044 ((.inr (m_1055, lo_1053, hi_1054)) :: q_1048))) m_1051)) x_1052)) x_1050)) x_1047)) e_3)) (fun x_1046 => (Prod.rec (motive := fun _ => Un) (fun m_1056 x_1057 => (Prod.rec (motive := fun _ => Un) (fun lo_1058 hi_1059 => (List.rec (motive := fun _ => Un) e_1 (fun x_1060 q_1061 _ => (Sum.rec (motive := fun _ => Un) (fun e_1062 => (Nat.rec (motive := fun _ => Un) (ih e_1 r_1044 ((.inl e_1062) :: q_1061)) (fun m_1064 _ => (ih e_1 ((.inr (m_1064, lo_1058, hi_1059)) :: r_1044) q_1061)) m_1056)) (fun x_1063 => (Prod.rec (motive := fun _ => Un) (fun m_1065 x_1066 => (Prod.rec (motive := fun _ => Un) (fun lo_1067 hi_1068 => (Bool.rec (motive := fun _ => Un) (ih e_1 ((.inr ((Nat.sub m_1056 m_1065), lo_1058, hi_1059)) :: r_1044) q_1061) (Bool.rec (motive := fun _ => Un) (ih e_1 r_1044 ((.inr ((Nat.sub m_1065 m_1056), lo_1067, hi_1068)) :: q_1061)) (ih e_1 r_1044 q_1061) (Nat.beq m_1056 m_1065)) (Nat.ble m_1056 m_1065))) x_1066)) x_1063)) x_1060)) e_3)) x_1057)) x_1046)) x_1043)) e_2)) e_0 e_1 e_2 e_3
theorem uniS_def  (e_0 : Nat) (e_1 : Un) (e_2 : List Sg) (e_3 : List Sg) : uniS  e_0 e_1 e_2 e_3 = (match e_0, e_1, e_2, e_3 with
  | 0, θ, _, _ => θ
  | n + 1, θ, p, a => match p, a with
    | .inl e :: r, .inl e' :: q => uniS n (uniL θ e e') r q
    | .inl e :: r, .inr (m, lo, hi) :: q => match m with
      | 0 => uniS n θ (.inl e :: r) q
      | m + 1 => uniS n (bif eqI lo hi then uniL θ e (kL lo) else θ) r (.inr (m, lo, hi) :: q)
    | .inr (m, lo, hi) :: r, .inl e' :: q => match m with
      | 0 => uniS n θ r (.inl e' :: q)
      | m + 1 => uniS n θ (.inr (m, lo, hi) :: r) q
    | .inr (m, lo, hi) :: r, .inr (m', lo', hi') :: q => bif Nat.ble m m' then (bif Nat.beq m m' then uniS n θ r q else uniS n θ r (.inr (Nat.sub m' m, lo', hi') :: q)) else uniS n θ (.inr (Nat.sub m m', lo, hi) :: r) q
    | _, _ => θ) := by
  cases e_0 with
  | zero =>
    show e_1 = _
    try simp only [iAddQ_eq, iMulQ_eq, iNegQ_eq, lenQ_eq, nthQ_eq, setQ_eq, appQ_eq, mapQ_eq, allQ_eq, anyQ_eq, dropQ_eq, takeQ_eq, revQ_eq, getDQ_eq, optLQ_eq, brecC]
    all_goals rfl
  | succ t_0 =>
    show (List.rec (motive := fun _ => Un) e_1 (fun x_1069 r_1070 _ => (Sum.rec (motive := fun _ => Un) (fun e_1071 => (List.rec (motive := fun _ => Un) e_1 (fun x_1073 q_1074 _ => (Sum.rec (motive := fun _ => Un) (fun e_1075 => (uniS t_0 (uniL e_1 e_1071 e_1075) r_1070 q_1074)) (fun x_1076 => (Prod.rec (motive := fun _ => Un) (fun m_1077 x_1078 => (Prod.rec (motive := fun _ => Un) (fun lo_1079 hi_1080 => (Nat.rec (motive := fun _ => Un) (uniS t_0 e_1 ((.inl e_1071) :: r_1070) q_1074) (fun m_1081 _ => (uniS t_0 (Bool.rec (motive := fun _ => Un) e_1 (uniL e_1 e_1071 (kL lo_1079)) (eqI lo_1079 hi_1080)) r_1070 ((.inr (m_1081, lo_1079, hi_1080)) :: q_1074))) m_1077)) x_1078)) x_1076)) x_1073)) e_3)) (fun x_1072 => (Prod.rec (motive := fun _ => Un) (fun m_1082 x_1083 => (Prod.rec (motive := fun _ => Un) (fun lo_1084 hi_1085 => (List.rec (motive := fun _ => Un) e_1 (fun x_1086 q_1087 _ => (Sum.rec (motive := fun _ => Un) (fun e_1088 => (Nat.rec (motive := fun _ => Un) (uniS t_0 e_1 r_1070 ((.inl e_1088) :: q_1087)) (fun m_1090 _ => (uniS t_0 e_1 ((.inr (m_1090, lo_1084, hi_1085)) :: r_1070) q_1087)) m_1082)) (fun x_1089 => (Prod.rec (motive := fun _ => Un) (fun m_1091 x_1092 => (Prod.rec (motive := fun _ => Un) (fun lo_1093 hi_1094 => (Bool.rec (motive := fun _ => Un) (uniS t_0 e_1 ((.inr ((Nat.sub m_1082 m_1091), lo_1084, hi_1085)) :: r_1070) q_1087) (Bool.rec (motive := fun _ => Un) (uniS t_0 e_1 r_1070 ((.inr ((Nat.sub m_1091 m_1082), lo_1093, hi_1094)) :: q_1087)) (uniS t_0 e_1 r_1070 q_1087) (Nat.beq m_1082 m_1091)) (Nat.ble m_1082 m_1091))) x_1092)) x_1089)) x_1086)) e_3)) x_1083)) x_1072)) x_1069)) e_2) = _
    try simp only [iAddQ_eq, iMulQ_eq, iNegQ_eq, lenQ_eq, nthQ_eq, setQ_eq, appQ_eq, mapQ_eq, allQ_eq, anyQ_eq, dropQ_eq, takeQ_eq, revQ_eq, getDQ_eq, optLQ_eq, brecC]
    all_goals
      cases e_2 with
      | nil =>
        try dsimp only [cond_false, cond_true]
        all_goals rfl
      | cons y_1095 y_1096 =>
        try dsimp only [cond_false, cond_true]
        all_goals
          cases y_1095 with
          | inl y_1097 =>
            try dsimp only [cond_false, cond_true]
            all_goals
              cases e_3 with
              | nil =>
                try dsimp only [cond_false, cond_true]
                all_goals rfl
              | cons y_1098 y_1099 =>
                try dsimp only [cond_false, cond_true]
                all_goals
                  cases y_1098 with
                  | inl y_1100 =>
                    try dsimp only [cond_false, cond_true]
                    all_goals rfl
                  | inr y_1101 =>
                    try dsimp only [cond_false, cond_true]
                    all_goals
                      cases y_1101 with
                      | mk y_1102 y_1103 =>
                        try dsimp only [cond_false, cond_true]
                        all_goals
                          cases y_1103 with
                          | mk y_1104 y_1105 =>
                            try dsimp only [cond_false, cond_true]
                            all_goals
                              cases y_1102 with
                              | zero =>
                                try dsimp only [cond_false, cond_true]
                                all_goals rfl
                              | succ y_1106 =>
                                try dsimp only [cond_false, cond_true]
                                all_goals rfl
          | inr y_1107 =>
            try dsimp only [cond_false, cond_true]
            all_goals
              cases y_1107 with
              | mk y_1108 y_1109 =>
                try dsimp only [cond_false, cond_true]
                all_goals
                  cases y_1109 with
                  | mk y_1110 y_1111 =>
                    try dsimp only [cond_false, cond_true]
                    all_goals
                      cases e_3 with
                      | nil =>
                        try dsimp only [cond_false, cond_true]
                        all_goals rfl
                      | cons y_1112 y_1113 =>
                        try dsimp only [cond_false, cond_true]
                        all_goals
                          cases y_1112 with
                          | inl y_1114 =>
                            try dsimp only [cond_false, cond_true]
                            all_goals
                              cases y_1108 with
                              | zero =>
                                try dsimp only [cond_false, cond_true]
                                all_goals rfl
                              | succ y_1115 =>
                                try dsimp only [cond_false, cond_true]
                                all_goals rfl
                          | inr y_1116 =>
                            try dsimp only [cond_false, cond_true]
                            all_goals
                              cases y_1116 with
                              | mk y_1117 y_1118 =>
                                try dsimp only [cond_false, cond_true]
                                all_goals
                                  cases y_1118 with
                                  | mk y_1119 y_1120 =>
                                    try dsimp only [cond_false, cond_true]
                                    all_goals
                                      cases hq_15 : (Nat.ble y_1108 y_1117) with
                                      | false =>
                                        try dsimp only [cond_false, cond_true]
                                        all_goals rfl
                                      | true =>
                                        try dsimp only [cond_false, cond_true]
                                        all_goals
                                          cases hq_16 : (Nat.beq y_1108 y_1117) with
                                          | false =>
                                            try dsimp only [cond_false, cond_true]
                                            all_goals rfl
                                          | true =>
                                            try dsimp only [cond_false, cond_true]
                                            all_goals rfl
noncomputable def uniC (θ : Un) (p a : AC) : Un :=
  (Sum.rec (motive := fun _ => Un) (fun x_1121 => (Prod.rec (motive := fun _ => Un) (fun x_1123 l_1124 => (Sum.rec (motive := fun _ => Un) (fun x_1125 => (Prod.rec (motive := fun _ => Un) (fun x_1127 l_1128 => (uniVs θ l_1124 l_1128)) x_1125)) (fun x_1126 => θ) a)) x_1121)) (fun x_1122 => (Prod.rec (motive := fun _ => Un) (fun x_1129 x_1130 => (Sum.rec (motive := fun _ => Un) (fun s_1131 => (Sum.rec (motive := fun _ => Un) (fun x_1133 => θ) (fun x_1134 => (Prod.rec (motive := fun _ => Un) (fun x_1135 x_1136 => (Sum.rec (motive := fun _ => Un) (fun s_1137 => (uniS (nat_lit 600) θ s_1131 s_1137)) (fun x_1138 => θ) x_1136)) x_1134)) a)) (fun x_1132 => θ) x_1130)) x_1122)) p)
theorem uniC_def (θ : Un) (p a : AC) : uniC θ p a = (match p, a with
  | .inl (_, l), .inl (_, l') => uniVs θ l l'
  | .inr (_, .inl s), .inr (_, .inl s') => uniS 600 θ s s'
  | _, _ => θ) := by
  show (Sum.rec (motive := fun _ => Un) (fun x_1121 => (Prod.rec (motive := fun _ => Un) (fun x_1123 l_1124 => (Sum.rec (motive := fun _ => Un) (fun x_1125 => (Prod.rec (motive := fun _ => Un) (fun x_1127 l_1128 => (uniVs θ l_1124 l_1128)) x_1125)) (fun x_1126 => θ) a)) x_1121)) (fun x_1122 => (Prod.rec (motive := fun _ => Un) (fun x_1129 x_1130 => (Sum.rec (motive := fun _ => Un) (fun s_1131 => (Sum.rec (motive := fun _ => Un) (fun x_1133 => θ) (fun x_1134 => (Prod.rec (motive := fun _ => Un) (fun x_1135 x_1136 => (Sum.rec (motive := fun _ => Un) (fun s_1137 => (uniS (nat_lit 600) θ s_1131 s_1137)) (fun x_1138 => θ) x_1136)) x_1134)) a)) (fun x_1132 => θ) x_1130)) x_1122)) p) = _
  all_goals
    cases p with
    | inl y_1139 =>
      try dsimp only [cond_false, cond_true]
      all_goals
        cases y_1139 with
        | mk y_1140 y_1141 =>
          try dsimp only [cond_false, cond_true]
          all_goals
            cases a with
            | inl y_1142 =>
              try dsimp only [cond_false, cond_true]
              all_goals
                cases y_1142 with
                | mk y_1143 y_1144 =>
                  try dsimp only [cond_false, cond_true]
                  all_goals rfl
            | inr y_1145 =>
              try dsimp only [cond_false, cond_true]
              all_goals rfl
    | inr y_1146 =>
      try dsimp only [cond_false, cond_true]
      all_goals
        cases y_1146 with
        | mk y_1147 y_1148 =>
          try dsimp only [cond_false, cond_true]
          all_goals
            cases y_1148 with
            | inl y_1149 =>
              try dsimp only [cond_false, cond_true]
              all_goals
                cases a with
                | inl y_1150 =>
                  try dsimp only [cond_false, cond_true]
                  all_goals rfl
                | inr y_1151 =>
                  try dsimp only [cond_false, cond_true]
                  all_goals
                    cases y_1151 with
                    | mk y_1152 y_1153 =>
                      try dsimp only [cond_false, cond_true]
                      all_goals
                        cases y_1153 with
                        | inl y_1154 =>
                          try dsimp only [cond_false, cond_true]
                          all_goals rfl
                        | inr y_1155 =>
                          try dsimp only [cond_false, cond_true]
                          all_goals rfl
            | inr y_1156 =>
              try dsimp only [cond_false, cond_true]
              all_goals rfl
noncomputable def uniH  : Un → AH → AH → Un :=
  fun θ e_0 e_1 => List.rec (motive := fun _ => Un → AH → Un) (fun θ e_1 => θ) (fun h_0 t_0 ih θ e_1 => (List.rec (motive := fun _ => Un) θ (fun a_1157 q_1158 _ => (ih (uniC θ h_0 a_1157) q_1158)) e_1)) e_0 θ e_1
theorem uniH_def  (θ : Un) (e_0 : AH) (e_1 : AH) : uniH  θ e_0 e_1 = (match e_0, e_1 with
  | p :: r, a :: q => uniH (uniC θ p a) r q
  | _, _ => θ) := by
  cases e_0 with
  | nil =>
    show θ = _
    try simp only [iAddQ_eq, iMulQ_eq, iNegQ_eq, lenQ_eq, nthQ_eq, setQ_eq, appQ_eq, mapQ_eq, allQ_eq, anyQ_eq, dropQ_eq, takeQ_eq, revQ_eq, getDQ_eq, optLQ_eq, brecC]
    all_goals rfl
  | cons h_0 t_0 =>
    show (List.rec (motive := fun _ => Un) θ (fun a_1159 q_1160 _ => (uniH (uniC θ h_0 a_1159) t_0 q_1160)) e_1) = _
    try simp only [iAddQ_eq, iMulQ_eq, iNegQ_eq, lenQ_eq, nthQ_eq, setQ_eq, appQ_eq, mapQ_eq, allQ_eq, anyQ_eq, dropQ_eq, takeQ_eq, revQ_eq, getDQ_eq, optLQ_eq, brecC]
    all_goals
      cases e_1 with
      | nil =>
        try dsimp only [cond_false, cond_true]
        all_goals rfl
      | cons y_1161 y_1162 =>
        try dsimp only [cond_false, cond_true]
        all_goals rfl
noncomputable def okNum (tab : Tb) (fs : List Ln) (θ : Un) (p a : Ln) : Bool :=
  (List.rec (motive := fun _ => Bool) true (fun x_1163 x_1164 _ => (Prod.rec (motive := fun _ => Bool) (fun s_1165 x_1166 => (List.rec (motive := fun _ => Bool) (Bool.rec (motive := fun _ => Bool) true (eqL tab fs (sbL (fun s => (thLk s θ.2)) p) a) (thHas s_1165 θ)) (fun x_1167 x_1168 _ => true) x_1164)) x_1163)) p.2)
theorem okNum_def (tab : Tb) (fs : List Ln) (θ : Un) (p a : Ln) : okNum tab fs θ p a = (match p.2 with
  | [(s, _)] => bif thHas s θ then eqL tab fs (sbL (fun s => thLk s θ.2) p) a else true
  | _ => true) := by
  show (List.rec (motive := fun _ => Bool) true (fun x_1163 x_1164 _ => (Prod.rec (motive := fun _ => Bool) (fun s_1165 x_1166 => (List.rec (motive := fun _ => Bool) (Bool.rec (motive := fun _ => Bool) true (eqL tab fs (sbL (fun s => (thLk s θ.2)) p) a) (thHas s_1165 θ)) (fun x_1167 x_1168 _ => true) x_1164)) x_1163)) p.2) = _
  try simp only [iAddQ_eq, iMulQ_eq, iNegQ_eq, lenQ_eq, nthQ_eq, setQ_eq, appQ_eq, mapQ_eq, allQ_eq, anyQ_eq, dropQ_eq, takeQ_eq, revQ_eq, getDQ_eq, optLQ_eq, brecC]
  all_goals
    cases hq_1 : p.2 with
    | nil =>
      try dsimp only [cond_false, cond_true]
      all_goals rfl
    | cons y_1169 y_1170 =>
      try dsimp only [cond_false, cond_true]
      all_goals
        cases y_1169 with
        | mk y_1171 y_1172 =>
          try dsimp only [cond_false, cond_true]
          all_goals
            cases y_1170 with
            | nil =>
              try dsimp only [cond_false, cond_true]
              all_goals
                cases hq_4 : (thHas y_1171 θ) with
                | false =>
                  try dsimp only [cond_false, cond_true]
                  all_goals rfl
                | true =>
                  try dsimp only [cond_false, cond_true]
                  all_goals rfl
            | cons y_1173 y_1174 =>
              try dsimp only [cond_false, cond_true]
              all_goals rfl
noncomputable def okNums (tab : Tb) (fs : List Ln) (θ : Un) : List Ln → List Ln → Bool :=
  fun e_0 e_1 => List.rec (motive := fun _ => List Ln → Bool) (fun e_1 => (List.rec (motive := fun _ => Bool) true (fun x_1175 x_1176 _ => false) e_1)) (fun h_0 t_0 ih e_1 => (List.rec (motive := fun _ => Bool) false (fun a_1177 q_1178 _ => (Bool.rec (motive := fun _ => Bool) false (ih q_1178) (okNum tab fs θ h_0 a_1177))) e_1)) e_0 e_1
theorem okNums_def (tab : Tb) (fs : List Ln) (θ : Un) (e_0 : List Ln) (e_1 : List Ln) : okNums tab fs θ e_0 e_1 = (match e_0, e_1 with
  | p :: r, a :: q => bif okNum tab fs θ p a then okNums tab fs θ r q else false
  | [], [] => true
  | _, _ => false) := by
  cases e_0 with
  | nil =>
    show (List.rec (motive := fun _ => Bool) true (fun x_1179 x_1180 _ => false) e_1) = _
    try simp only [iAddQ_eq, iMulQ_eq, iNegQ_eq, lenQ_eq, nthQ_eq, setQ_eq, appQ_eq, mapQ_eq, allQ_eq, anyQ_eq, dropQ_eq, takeQ_eq, revQ_eq, getDQ_eq, optLQ_eq, brecC]
    all_goals
      cases e_1 with
      | nil =>
        try dsimp only [cond_false, cond_true]
        all_goals rfl
      | cons y_1181 y_1182 =>
        try dsimp only [cond_false, cond_true]
        all_goals rfl
  | cons h_0 t_0 =>
    show (List.rec (motive := fun _ => Bool) false (fun a_1183 q_1184 _ => (Bool.rec (motive := fun _ => Bool) false (okNums tab fs θ t_0 q_1184) (okNum tab fs θ h_0 a_1183))) e_1) = _
    try simp only [iAddQ_eq, iMulQ_eq, iNegQ_eq, lenQ_eq, nthQ_eq, setQ_eq, appQ_eq, mapQ_eq, allQ_eq, anyQ_eq, dropQ_eq, takeQ_eq, revQ_eq, getDQ_eq, optLQ_eq, brecC]
    all_goals
      cases e_1 with
      | nil =>
        try dsimp only [cond_false, cond_true]
        all_goals rfl
      | cons y_1185 y_1186 =>
        try dsimp only [cond_false, cond_true]
        all_goals
          cases hq_3 : (okNum tab fs θ h_0 y_1185) with
          | false =>
            try dsimp only [cond_false, cond_true]
            all_goals rfl
          | true =>
            try dsimp only [cond_false, cond_true]
            all_goals rfl
noncomputable def uniN  : Un → List Ln → List Ln → Un :=
  fun θ e_0 e_1 => List.rec (motive := fun _ => Un → List Ln → Un) (fun θ e_1 => θ) (fun h_0 t_0 ih θ e_1 => (List.rec (motive := fun _ => Un) θ (fun a_1187 q_1188 _ => (ih (uniL θ h_0 a_1187) q_1188)) e_1)) e_0 θ e_1
theorem uniN_def  (θ : Un) (e_0 : List Ln) (e_1 : List Ln) : uniN  θ e_0 e_1 = (match e_0, e_1 with
  | p :: r, a :: q => uniN (uniL θ p a) r q
  | _, _ => θ) := by
  cases e_0 with
  | nil =>
    show θ = _
    try simp only [iAddQ_eq, iMulQ_eq, iNegQ_eq, lenQ_eq, nthQ_eq, setQ_eq, appQ_eq, mapQ_eq, allQ_eq, anyQ_eq, dropQ_eq, takeQ_eq, revQ_eq, getDQ_eq, optLQ_eq, brecC]
    all_goals rfl
  | cons h_0 t_0 =>
    show (List.rec (motive := fun _ => Un) θ (fun a_1189 q_1190 _ => (uniN (uniL θ h_0 a_1189) t_0 q_1190)) e_1) = _
    try simp only [iAddQ_eq, iMulQ_eq, iNegQ_eq, lenQ_eq, nthQ_eq, setQ_eq, appQ_eq, mapQ_eq, allQ_eq, anyQ_eq, dropQ_eq, takeQ_eq, revQ_eq, getDQ_eq, optLQ_eq, brecC]
    all_goals
      cases e_1 with
      | nil =>
        try dsimp only [cond_false, cond_true]
        all_goals rfl
      | cons y_1191 y_1192 =>
        try dsimp only [cond_false, cond_true]
        all_goals rfl
-- checks
noncomputable def chkV (tab : Tb) (fs : List Ln) (θ : Th) (p a : AV) : Bool :=
  (Sum.rec (motive := fun _ => Bool) (fun x_1193 => (Prod.rec (motive := fun _ => Bool) (fun b_1195 e_1196 => (Sum.rec (motive := fun _ => Bool) (fun x_1197 => (Prod.rec (motive := fun _ => Bool) (fun b_1199 e_1200 => (Bool.rec (motive := fun _ => Bool) false (eqL tab fs (sbL θ e_1196) e_1200) (lnB b_1195 b_1199))) x_1197)) (fun x_1198 => false) a)) x_1193)) (fun x_1194 => (Sum.rec (motive := fun _ => Bool) (fun x_1201 => (Option.rec (motive := fun _ => Bool) (Sum.rec (motive := fun _ => Bool) (fun x_1204 => false) (fun x_1205 => (Sum.rec (motive := fun _ => Bool) (fun x_1206 => (Option.rec (motive := fun _ => Bool) true (fun x_1208 => false) x_1206)) (fun x_1207 => false) x_1205)) a) (fun i_1203 => (Sum.rec (motive := fun _ => Bool) (fun x_1209 => false) (fun x_1210 => (Sum.rec (motive := fun _ => Bool) (fun x_1211 => (Option.rec (motive := fun _ => Bool) false (fun j_1213 => (Nat.beq i_1203 j_1213)) x_1211)) (fun x_1212 => false) x_1210)) a)) x_1201)) (fun x_1202 => false) x_1194)) p)
theorem chkV_def (tab : Tb) (fs : List Ln) (θ : Th) (p a : AV) : chkV tab fs θ p a = (match p, a with
  | .inl (b, e), .inl (b', e') => bif lnB b b' then eqL tab fs (sbL θ e) e' else false
  | .inr (.inl (some i)), .inr (.inl (some j)) => Nat.beq i j
  | .inr (.inl none), .inr (.inl none) => true
  | _, _ => false) := by
  show (Sum.rec (motive := fun _ => Bool) (fun x_1193 => (Prod.rec (motive := fun _ => Bool) (fun b_1195 e_1196 => (Sum.rec (motive := fun _ => Bool) (fun x_1197 => (Prod.rec (motive := fun _ => Bool) (fun b_1199 e_1200 => (Bool.rec (motive := fun _ => Bool) false (eqL tab fs (sbL θ e_1196) e_1200) (lnB b_1195 b_1199))) x_1197)) (fun x_1198 => false) a)) x_1193)) (fun x_1194 => (Sum.rec (motive := fun _ => Bool) (fun x_1201 => (Option.rec (motive := fun _ => Bool) (Sum.rec (motive := fun _ => Bool) (fun x_1204 => false) (fun x_1205 => (Sum.rec (motive := fun _ => Bool) (fun x_1206 => (Option.rec (motive := fun _ => Bool) true (fun x_1208 => false) x_1206)) (fun x_1207 => false) x_1205)) a) (fun i_1203 => (Sum.rec (motive := fun _ => Bool) (fun x_1209 => false) (fun x_1210 => (Sum.rec (motive := fun _ => Bool) (fun x_1211 => (Option.rec (motive := fun _ => Bool) false (fun j_1213 => (Nat.beq i_1203 j_1213)) x_1211)) (fun x_1212 => false) x_1210)) a)) x_1201)) (fun x_1202 => false) x_1194)) p) = _
  try simp only [iAddQ_eq, iMulQ_eq, iNegQ_eq, lenQ_eq, nthQ_eq, setQ_eq, appQ_eq, mapQ_eq, allQ_eq, anyQ_eq, dropQ_eq, takeQ_eq, revQ_eq, getDQ_eq, optLQ_eq, brecC]
  all_goals
    cases p with
    | inl y_1214 =>
      try dsimp only [cond_false, cond_true]
      all_goals
        cases y_1214 with
        | mk y_1215 y_1216 =>
          try dsimp only [cond_false, cond_true]
          all_goals
            cases a with
            | inl y_1217 =>
              try dsimp only [cond_false, cond_true]
              all_goals
                cases y_1217 with
                | mk y_1218 y_1219 =>
                  try dsimp only [cond_false, cond_true]
                  all_goals
                    cases hq_5 : (lnB y_1215 y_1218) with
                    | false =>
                      try dsimp only [cond_false, cond_true]
                      all_goals rfl
                    | true =>
                      try dsimp only [cond_false, cond_true]
                      all_goals rfl
            | inr y_1220 =>
              try dsimp only [cond_false, cond_true]
              all_goals rfl
    | inr y_1221 =>
      try dsimp only [cond_false, cond_true]
      all_goals
        cases y_1221 with
        | inl y_1222 =>
          try dsimp only [cond_false, cond_true]
          all_goals
            cases y_1222 with
            | none =>
              try dsimp only [cond_false, cond_true]
              all_goals
                cases a with
                | inl y_1223 =>
                  try dsimp only [cond_false, cond_true]
                  all_goals rfl
                | inr y_1224 =>
                  try dsimp only [cond_false, cond_true]
                  all_goals
                    cases y_1224 with
                    | inl y_1225 =>
                      try dsimp only [cond_false, cond_true]
                      all_goals
                        cases y_1225 with
                        | none =>
                          try dsimp only [cond_false, cond_true]
                          all_goals rfl
                        | some y_1226 =>
                          try dsimp only [cond_false, cond_true]
                          all_goals rfl
                    | inr y_1227 =>
                      try dsimp only [cond_false, cond_true]
                      all_goals rfl
            | some y_1228 =>
              try dsimp only [cond_false, cond_true]
              all_goals
                cases a with
                | inl y_1229 =>
                  try dsimp only [cond_false, cond_true]
                  all_goals rfl
                | inr y_1230 =>
                  try dsimp only [cond_false, cond_true]
                  all_goals
                    cases y_1230 with
                    | inl y_1231 =>
                      try dsimp only [cond_false, cond_true]
                      all_goals
                        cases y_1231 with
                        | none =>
                          try dsimp only [cond_false, cond_true]
                          all_goals rfl
                        | some y_1232 =>
                          try dsimp only [cond_false, cond_true]
                          all_goals rfl
                    | inr y_1233 =>
                      try dsimp only [cond_false, cond_true]
                      all_goals rfl
        | inr y_1234 =>
          try dsimp only [cond_false, cond_true]
          all_goals rfl
noncomputable def chkVs (tab : Tb) (fs : List Ln) (θ : Th) : List AV → List AV → Bool :=
  fun e_0 e_1 => List.rec (motive := fun _ => List AV → Bool) (fun e_1 => (List.rec (motive := fun _ => Bool) true (fun x_1235 x_1236 _ => false) e_1)) (fun h_0 t_0 ih e_1 => (List.rec (motive := fun _ => Bool) false (fun a_1237 q_1238 _ => (Bool.rec (motive := fun _ => Bool) false (ih q_1238) (chkV tab fs θ h_0 a_1237))) e_1)) e_0 e_1
theorem chkVs_def (tab : Tb) (fs : List Ln) (θ : Th) (e_0 : List AV) (e_1 : List AV) : chkVs tab fs θ e_0 e_1 = (match e_0, e_1 with
  | [], [] => true
  | p :: r, a :: q => bif chkV tab fs θ p a then chkVs tab fs θ r q else false
  | _, _ => false) := by
  cases e_0 with
  | nil =>
    show (List.rec (motive := fun _ => Bool) true (fun x_1239 x_1240 _ => false) e_1) = _
    try simp only [iAddQ_eq, iMulQ_eq, iNegQ_eq, lenQ_eq, nthQ_eq, setQ_eq, appQ_eq, mapQ_eq, allQ_eq, anyQ_eq, dropQ_eq, takeQ_eq, revQ_eq, getDQ_eq, optLQ_eq, brecC]
    all_goals
      cases e_1 with
      | nil =>
        try dsimp only [cond_false, cond_true]
        all_goals rfl
      | cons y_1241 y_1242 =>
        try dsimp only [cond_false, cond_true]
        all_goals rfl
  | cons h_0 t_0 =>
    show (List.rec (motive := fun _ => Bool) false (fun a_1243 q_1244 _ => (Bool.rec (motive := fun _ => Bool) false (chkVs tab fs θ t_0 q_1244) (chkV tab fs θ h_0 a_1243))) e_1) = _
    try simp only [iAddQ_eq, iMulQ_eq, iNegQ_eq, lenQ_eq, nthQ_eq, setQ_eq, appQ_eq, mapQ_eq, allQ_eq, anyQ_eq, dropQ_eq, takeQ_eq, revQ_eq, getDQ_eq, optLQ_eq, brecC]
    all_goals
      cases e_1 with
      | nil =>
        try dsimp only [cond_false, cond_true]
        all_goals rfl
      | cons y_1245 y_1246 =>
        try dsimp only [cond_false, cond_true]
        all_goals
          cases hq_3 : (chkV tab fs θ h_0 y_1245) with
          | false =>
            try dsimp only [cond_false, cond_true]
            all_goals rfl
          | true =>
            try dsimp only [cond_false, cond_true]
            all_goals rfl
noncomputable def sgLe (tab : Tb) (fs : List Ln) (θ : Th) : Nat → List Sg → List Sg → Bool :=
  fun e_0 e_1 e_2 => Nat.rec (motive := fun _ => List Sg → List Sg → Bool) (fun e_1 e_2 => false) (fun t_0 ih e_1 e_2 => (List.rec (motive := fun _ => Bool) (List.rec (motive := fun _ => Bool) true (fun x_1249 q_1250 _ => (Sum.rec (motive := fun _ => Bool) (fun x_1251 => false) (fun x_1252 => (Prod.rec (motive := fun _ => Bool) (fun m_1253 x_1254 => (Prod.rec (motive := fun _ => Bool) (fun x_1255 x_1256 => (Bool.rec (motive := fun _ => Bool) false (ih [] q_1250) (Nat.beq m_1253 (nat_lit 0)))) x_1254)) x_1252)) x_1249)) e_2) (fun x_1247 r_1248 _ => (Sum.rec (motive := fun _ => Bool) (fun e_1257 => (List.rec (motive := fun _ => Bool) false (fun x_1259 q_1260 _ => (Sum.rec (motive := fun _ => Bool) (fun e_1261 => (Bool.rec (motive := fun _ => Bool) false (ih r_1248 q_1260) (eqL tab fs (sbL θ e_1257) e_1261))) (fun x_1262 => (Prod.rec (motive := fun _ => Bool) (fun m_1263 x_1264 => (Prod.rec (motive := fun _ => Bool) (fun lo_1265 hi_1266 => (Nat.rec (motive := fun _ => Bool) (ih ((.inl e_1257) :: r_1248) q_1260) (fun m_1267 _ => (Bool.rec (motive := fun _ => Bool) false (Bool.rec (motive := fun _ => Bool) false (ih r_1248 ((.inr (m_1267, lo_1265, hi_1266)) :: q_1260)) (eqL tab fs (sbL θ e_1257) (kL lo_1265))) (eqI lo_1265 hi_1266))) m_1263)) x_1264)) x_1262)) x_1259)) e_2)) (fun x_1258 => (Prod.rec (motive := fun _ => Bool) (fun m_1268 x_1269 => (Prod.rec (motive := fun _ => Bool) (fun lo_1270 hi_1271 => (List.rec (motive := fun _ => Bool) (Bool.rec (motive := fun _ => Bool) false (ih r_1248 []) (Nat.beq m_1268 (nat_lit 0))) (fun x_1272 q_1273 _ => (Sum.rec (motive := fun _ => Bool) (fun e_1274 => (Nat.rec (motive := fun _ => Bool) (ih r_1248 ((.inl e_1274) :: q_1273)) (fun m_1276 _ => (Bool.rec (motive := fun _ => Bool) false (ih ((.inr (m_1276, lo_1270, hi_1271)) :: r_1248) q_1273) (inF tab fs lo_1270 hi_1271 e_1274))) m_1268)) (fun x_1275 => (Prod.rec (motive := fun _ => Bool) (fun m_1277 x_1278 => (Prod.rec (motive := fun _ => Bool) (fun lo_1279 hi_1280 => (Bool.rec (motive := fun _ => Bool) false (Bool.rec (motive := fun _ => Bool) (ih ((.inr ((Nat.sub m_1268 m_1277), lo_1270, hi_1271)) :: r_1248) q_1273) (Bool.rec (motive := fun _ => Bool) (ih r_1248 ((.inr ((Nat.sub m_1277 m_1268), lo_1279, hi_1280)) :: q_1273)) (ih r_1248 q_1273) (Nat.beq m_1268 m_1277)) (Nat.ble m_1268 m_1277)) (Bool.rec (motive := fun _ => Bool) (Bool.rec (motive := fun _ => Bool) (Bool.rec (motive := fun _ => Bool) false (leI hi_1280 hi_1271) (leI lo_1270 lo_1279)) true (Nat.beq m_1268 (nat_lit 0))) true (Nat.beq m_1277 (nat_lit 0))))) x_1278)) x_1275)) x_1272)) e_2)) x_1269)) x_1258)) x_1247)) e_1)) e_0 e_1 e_2
theorem sgLe_def (tab : Tb) (fs : List Ln) (θ : Th) (e_0 : Nat) (e_1 : List Sg) (e_2 : List Sg) : sgLe tab fs θ e_0 e_1 e_2 = (match e_0, e_1, e_2 with
  | 0, _, _ => false
  | n + 1, p, a => match p, a with
    | [], [] => true
    | .inl e :: r, .inl e' :: q => bif eqL tab fs (sbL θ e) e' then sgLe tab fs θ n r q else false
    | .inl e :: r, .inr (m, lo, hi) :: q => match m with
      | 0 => sgLe tab fs θ n (.inl e :: r) q
      | m + 1 => bif eqI lo hi then (bif eqL tab fs (sbL θ e) (kL lo) then sgLe tab fs θ n r (.inr (m, lo, hi) :: q) else false) else false
    | .inr (m, lo, hi) :: r, [] => bif Nat.beq m 0 then sgLe tab fs θ n r [] else false
    | [], .inr (m, _, _) :: q => bif Nat.beq m 0 then sgLe tab fs θ n [] q else false
    | .inr (m, lo, hi) :: r, .inl e' :: q => match m with
      | 0 => sgLe tab fs θ n r (.inl e' :: q)
      | m + 1 => bif inF tab fs lo hi e' then sgLe tab fs θ n (.inr (m, lo, hi) :: r) q else false
    | .inr (m, lo, hi) :: r, .inr (m', lo', hi') :: q => bif (bif Nat.beq m' 0 then true else bif Nat.beq m 0 then true else bif leI lo lo' then leI hi' hi else false) then (bif Nat.ble m m' then (bif Nat.beq m m' then sgLe tab fs θ n r q else sgLe tab fs θ n r (.inr (Nat.sub m' m, lo', hi') :: q)) else sgLe tab fs θ n (.inr (Nat.sub m m', lo, hi) :: r) q) else false
    | _, _ => false) := by
  cases e_0 with
  | zero =>
    show false = _
    try simp only [iAddQ_eq, iMulQ_eq, iNegQ_eq, lenQ_eq, nthQ_eq, setQ_eq, appQ_eq, mapQ_eq, allQ_eq, anyQ_eq, dropQ_eq, takeQ_eq, revQ_eq, getDQ_eq, optLQ_eq, brecC]
    all_goals rfl
  | succ t_0 =>
    show (List.rec (motive := fun _ => Bool) (List.rec (motive := fun _ => Bool) true (fun x_1283 q_1284 _ => (Sum.rec (motive := fun _ => Bool) (fun x_1285 => false) (fun x_1286 => (Prod.rec (motive := fun _ => Bool) (fun m_1287 x_1288 => (Prod.rec (motive := fun _ => Bool) (fun x_1289 x_1290 => (Bool.rec (motive := fun _ => Bool) false (sgLe tab fs θ t_0 [] q_1284) (Nat.beq m_1287 (nat_lit 0)))) x_1288)) x_1286)) x_1283)) e_2) (fun x_1281 r_1282 _ => (Sum.rec (motive := fun _ => Bool) (fun e_1291 => (List.rec (motive := fun _ => Bool) false (fun x_1293 q_1294 _ => (Sum.rec (motive := fun _ => Bool) (fun e_1295 => (Bool.rec (motive := fun _ => Bool) false (sgLe tab fs θ t_0 r_1282 q_1294) (eqL tab fs (sbL θ e_1291) e_1295))) (fun x_1296 => (Prod.rec (motive := fun _ => Bool) (fun m_1297 x_1298 => (Prod.rec (motive := fun _ => Bool) (fun lo_1299 hi_1300 => (Nat.rec (motive := fun _ => Bool) (sgLe tab fs θ t_0 ((.inl e_1291) :: r_1282) q_1294) (fun m_1301 _ => (Bool.rec (motive := fun _ => Bool) false (Bool.rec (motive := fun _ => Bool) false (sgLe tab fs θ t_0 r_1282 ((.inr (m_1301, lo_1299, hi_1300)) :: q_1294)) (eqL tab fs (sbL θ e_1291) (kL lo_1299))) (eqI lo_1299 hi_1300))) m_1297)) x_1298)) x_1296)) x_1293)) e_2)) (fun x_1292 => (Prod.rec (motive := fun _ => Bool) (fun m_1302 x_1303 => (Prod.rec (motive := fun _ => Bool) (fun lo_1304 hi_1305 => (List.rec (motive := fun _ => Bool) (Bool.rec (motive := fun _ => Bool) false (sgLe tab fs θ t_0 r_1282 []) (Nat.beq m_1302 (nat_lit 0))) (fun x_1306 q_1307 _ => (Sum.rec (motive := fun _ => Bool) (fun e_1308 => (Nat.rec (motive := fun _ => Bool) (sgLe tab fs θ t_0 r_1282 ((.inl e_1308) :: q_1307)) (fun m_1310 _ => (Bool.rec (motive := fun _ => Bool) false (sgLe tab fs θ t_0 ((.inr (m_1310, lo_1304, hi_1305)) :: r_1282) q_1307) (inF tab fs lo_1304 hi_1305 e_1308))) m_1302)) (fun x_1309 => (Prod.rec (motive := fun _ => Bool) (fun m_1311 x_1312 => (Prod.rec (motive := fun _ => Bool) (fun lo_1313 hi_1314 => (Bool.rec (motive := fun _ => Bool) false (Bool.rec (motive := fun _ => Bool) (sgLe tab fs θ t_0 ((.inr ((Nat.sub m_1302 m_1311), lo_1304, hi_1305)) :: r_1282) q_1307) (Bool.rec (motive := fun _ => Bool) (sgLe tab fs θ t_0 r_1282 ((.inr ((Nat.sub m_1311 m_1302), lo_1313, hi_1314)) :: q_1307)) (sgLe tab fs θ t_0 r_1282 q_1307) (Nat.beq m_1302 m_1311)) (Nat.ble m_1302 m_1311)) (Bool.rec (motive := fun _ => Bool) (Bool.rec (motive := fun _ => Bool) (Bool.rec (motive := fun _ => Bool) false (leI hi_1314 hi_1305) (leI lo_1304 lo_1313)) true (Nat.beq m_1302 (nat_lit 0))) true (Nat.beq m_1311 (nat_lit 0))))) x_1312)) x_1309)) x_1306)) e_2)) x_1303)) x_1292)) x_1281)) e_1) = _
    try simp only [iAddQ_eq, iMulQ_eq, iNegQ_eq, lenQ_eq, nthQ_eq, setQ_eq, appQ_eq, mapQ_eq, allQ_eq, anyQ_eq, dropQ_eq, takeQ_eq, revQ_eq, getDQ_eq, optLQ_eq, brecC]
    all_goals
      cases e_1 with
      | nil =>
        try dsimp only [cond_false, cond_true]
        all_goals
          cases e_2 with
          | nil =>
            try dsimp only [cond_false, cond_true]
            all_goals rfl
          | cons y_1315 y_1316 =>
            try dsimp only [cond_false, cond_true]
            all_goals
              cases y_1315 with
              | inl y_1317 =>
                try dsimp only [cond_false, cond_true]
                all_goals rfl
              | inr y_1318 =>
                try dsimp only [cond_false, cond_true]
                all_goals
                  cases y_1318 with
                  | mk y_1319 y_1320 =>
                    try dsimp only [cond_false, cond_true]
                    all_goals
                      cases y_1320 with
                      | mk y_1321 y_1322 =>
                        try dsimp only [cond_false, cond_true]
                        all_goals
                          cases hq_6 : (Nat.beq y_1319 0) with
                          | false =>
                            try dsimp only [cond_false, cond_true]
                            all_goals rfl
                          | true =>
                            try dsimp only [cond_false, cond_true]
                            all_goals rfl
      | cons y_1323 y_1324 =>
        try dsimp only [cond_false, cond_true]
        all_goals
          cases y_1323 with
          | inl y_1325 =>
            try dsimp only [cond_false, cond_true]
            all_goals
              cases e_2 with
              | nil =>
                try dsimp only [cond_false, cond_true]
                all_goals rfl
              | cons y_1326 y_1327 =>
                try dsimp only [cond_false, cond_true]
                all_goals
                  cases y_1326 with
                  | inl y_1328 =>
                    try dsimp only [cond_false, cond_true]
                    all_goals
                      cases hq_10 : (eqL tab fs ((sbL θ y_1325)) y_1328) with
                      | false =>
                        try dsimp only [cond_false, cond_true]
                        all_goals rfl
                      | true =>
                        try dsimp only [cond_false, cond_true]
                        all_goals rfl
                  | inr y_1329 =>
                    try dsimp only [cond_false, cond_true]
                    all_goals
                      cases y_1329 with
                      | mk y_1330 y_1331 =>
                        try dsimp only [cond_false, cond_true]
                        all_goals
                          cases y_1331 with
                          | mk y_1332 y_1333 =>
                            try dsimp only [cond_false, cond_true]
                            all_goals
                              cases y_1330 with
                              | zero =>
                                try dsimp only [cond_false, cond_true]
                                all_goals rfl
                              | succ y_1334 =>
                                try dsimp only [cond_false, cond_true]
                                all_goals
                                  cases hq_14 : (eqI y_1332 y_1333) with
                                  | false =>
                                    try dsimp only [cond_false, cond_true]
                                    all_goals rfl
                                  | true =>
                                    try dsimp only [cond_false, cond_true]
                                    all_goals
                                      cases hq_15 : (eqL tab fs ((sbL θ y_1325)) ((kL y_1332))) with
                                      | false =>
                                        try dsimp only [cond_false, cond_true]
                                        all_goals rfl
                                      | true =>
                                        try dsimp only [cond_false, cond_true]
                                        all_goals rfl
          | inr y_1335 =>
            try dsimp only [cond_false, cond_true]
            all_goals
              cases y_1335 with
              | mk y_1336 y_1337 =>
                try dsimp only [cond_false, cond_true]
                all_goals
                  cases y_1337 with
                  | mk y_1338 y_1339 =>
                    try dsimp only [cond_false, cond_true]
                    all_goals
                      cases e_2 with
                      | nil =>
                        try dsimp only [cond_false, cond_true]
                        all_goals
                          cases hq_19 : (Nat.beq y_1336 0) with
                          | false =>
                            try dsimp only [cond_false, cond_true]
                            all_goals rfl
                          | true =>
                            try dsimp only [cond_false, cond_true]
                            all_goals rfl
                      | cons y_1340 y_1341 =>
                        try dsimp only [cond_false, cond_true]
                        all_goals
                          cases y_1340 with
                          | inl y_1342 =>
                            try dsimp only [cond_false, cond_true]
                            all_goals
                              cases y_1336 with
                              | zero =>
                                try dsimp only [cond_false, cond_true]
                                all_goals rfl
                              | succ y_1343 =>
                                try dsimp only [cond_false, cond_true]
                                all_goals
                                  cases hq_22 : (inF tab fs y_1338 y_1339 y_1342) with
                                  | false =>
                                    try dsimp only [cond_false, cond_true]
                                    all_goals rfl
                                  | true =>
                                    try dsimp only [cond_false, cond_true]
                                    all_goals rfl
                          | inr y_1344 =>
                            try dsimp only [cond_false, cond_true]
                            all_goals
                              cases y_1344 with
                              | mk y_1345 y_1346 =>
                                try dsimp only [cond_false, cond_true]
                                all_goals
                                  cases y_1346 with
                                  | mk y_1347 y_1348 =>
                                    try dsimp only [cond_false, cond_true]
                                    all_goals
                                      cases hq_25 : ((bif (Nat.beq y_1345 0) then true else (bif (Nat.beq y_1336 0) then true else (bif (leI y_1338 y_1347) then (leI y_1348 y_1339) else false)))) with
                                      | false =>
                                        try dsimp only [cond_false, cond_true]
                                        all_goals rfl
                                      | true =>
                                        try dsimp only [cond_false, cond_true]
                                        all_goals
                                          cases hq_26 : (Nat.ble y_1336 y_1345) with
                                          | false =>
                                            try dsimp only [cond_false, cond_true]
                                            all_goals rfl
                                          | true =>
                                            try dsimp only [cond_false, cond_true]
                                            all_goals
                                              cases hq_27 : (Nat.beq y_1336 y_1345) with
                                              | false =>
                                                try dsimp only [cond_false, cond_true]
                                                all_goals rfl
                                              | true =>
                                                try dsimp only [cond_false, cond_true]
                                                all_goals rfl
noncomputable def eqO  : List (Option Nat) → List (Option Nat) → Bool :=
  fun e_0 e_1 => List.rec (motive := fun _ => List (Option Nat) → Bool) (fun e_1 => (List.rec (motive := fun _ => Bool) true (fun x_1349 x_1350 _ => false) e_1)) (fun h_0 t_0 ih e_1 => (Option.rec (motive := fun _ => Bool) (List.rec (motive := fun _ => Bool) false (fun x_1352 q_1353 _ => (Option.rec (motive := fun _ => Bool) (ih q_1353) (fun x_1354 => false) x_1352)) e_1) (fun i_1351 => (List.rec (motive := fun _ => Bool) false (fun x_1355 q_1356 _ => (Option.rec (motive := fun _ => Bool) false (fun j_1357 => (Bool.rec (motive := fun _ => Bool) false (ih q_1356) (Nat.beq i_1351 j_1357))) x_1355)) e_1)) h_0)) e_0 e_1
theorem eqO_def  (e_0 : List (Option Nat)) (e_1 : List (Option Nat)) : eqO  e_0 e_1 = (match e_0, e_1 with
  | [], [] => true
  | some i :: r, some j :: q => bif Nat.beq i j then eqO r q else false
  | none :: r, none :: q => eqO r q
  | _, _ => false) := by
  cases e_0 with
  | nil =>
    show (List.rec (motive := fun _ => Bool) true (fun x_1358 x_1359 _ => false) e_1) = _
    try simp only [iAddQ_eq, iMulQ_eq, iNegQ_eq, lenQ_eq, nthQ_eq, setQ_eq, appQ_eq, mapQ_eq, allQ_eq, anyQ_eq, dropQ_eq, takeQ_eq, revQ_eq, getDQ_eq, optLQ_eq, brecC]
    all_goals
      cases e_1 with
      | nil =>
        try dsimp only [cond_false, cond_true]
        all_goals rfl
      | cons y_1360 y_1361 =>
        try dsimp only [cond_false, cond_true]
        all_goals rfl
  | cons h_0 t_0 =>
    show (Option.rec (motive := fun _ => Bool) (List.rec (motive := fun _ => Bool) false (fun x_1363 q_1364 _ => (Option.rec (motive := fun _ => Bool) (eqO t_0 q_1364) (fun x_1365 => false) x_1363)) e_1) (fun i_1362 => (List.rec (motive := fun _ => Bool) false (fun x_1366 q_1367 _ => (Option.rec (motive := fun _ => Bool) false (fun j_1368 => (Bool.rec (motive := fun _ => Bool) false (eqO t_0 q_1367) (Nat.beq i_1362 j_1368))) x_1366)) e_1)) h_0) = _
    try simp only [iAddQ_eq, iMulQ_eq, iNegQ_eq, lenQ_eq, nthQ_eq, setQ_eq, appQ_eq, mapQ_eq, allQ_eq, anyQ_eq, dropQ_eq, takeQ_eq, revQ_eq, getDQ_eq, optLQ_eq, brecC]
    all_goals
      cases h_0 with
      | none =>
        try dsimp only [cond_false, cond_true]
        all_goals
          cases e_1 with
          | nil =>
            try dsimp only [cond_false, cond_true]
            all_goals rfl
          | cons y_1369 y_1370 =>
            try dsimp only [cond_false, cond_true]
            all_goals
              cases y_1369 with
              | none =>
                try dsimp only [cond_false, cond_true]
                all_goals rfl
              | some y_1371 =>
                try dsimp only [cond_false, cond_true]
                all_goals rfl
      | some y_1372 =>
        try dsimp only [cond_false, cond_true]
        all_goals
          cases e_1 with
          | nil =>
            try dsimp only [cond_false, cond_true]
            all_goals rfl
          | cons y_1373 y_1374 =>
            try dsimp only [cond_false, cond_true]
            all_goals
              cases y_1373 with
              | none =>
                try dsimp only [cond_false, cond_true]
                all_goals rfl
              | some y_1375 =>
                try dsimp only [cond_false, cond_true]
                all_goals
                  cases hq_7 : (Nat.beq y_1372 y_1375) with
                  | false =>
                    try dsimp only [cond_false, cond_true]
                    all_goals rfl
                  | true =>
                    try dsimp only [cond_false, cond_true]
                    all_goals rfl
noncomputable def eqN  : List Nat → List Nat → Bool :=
  fun e_0 e_1 => List.rec (motive := fun _ => List Nat → Bool) (fun e_1 => (List.rec (motive := fun _ => Bool) true (fun x_1376 x_1377 _ => false) e_1)) (fun h_0 t_0 ih e_1 => (List.rec (motive := fun _ => Bool) false (fun j_1378 q_1379 _ => (Bool.rec (motive := fun _ => Bool) false (ih q_1379) (Nat.beq h_0 j_1378))) e_1)) e_0 e_1
theorem eqN_def  (e_0 : List Nat) (e_1 : List Nat) : eqN  e_0 e_1 = (match e_0, e_1 with
  | [], [] => true
  | i :: r, j :: q => bif Nat.beq i j then eqN r q else false
  | _, _ => false) := by
  cases e_0 with
  | nil =>
    show (List.rec (motive := fun _ => Bool) true (fun x_1380 x_1381 _ => false) e_1) = _
    try simp only [iAddQ_eq, iMulQ_eq, iNegQ_eq, lenQ_eq, nthQ_eq, setQ_eq, appQ_eq, mapQ_eq, allQ_eq, anyQ_eq, dropQ_eq, takeQ_eq, revQ_eq, getDQ_eq, optLQ_eq, brecC]
    all_goals
      cases e_1 with
      | nil =>
        try dsimp only [cond_false, cond_true]
        all_goals rfl
      | cons y_1382 y_1383 =>
        try dsimp only [cond_false, cond_true]
        all_goals rfl
  | cons h_0 t_0 =>
    show (List.rec (motive := fun _ => Bool) false (fun j_1384 q_1385 _ => (Bool.rec (motive := fun _ => Bool) false (eqN t_0 q_1385) (Nat.beq h_0 j_1384))) e_1) = _
    try simp only [iAddQ_eq, iMulQ_eq, iNegQ_eq, lenQ_eq, nthQ_eq, setQ_eq, appQ_eq, mapQ_eq, allQ_eq, anyQ_eq, dropQ_eq, takeQ_eq, revQ_eq, getDQ_eq, optLQ_eq, brecC]
    all_goals
      cases e_1 with
      | nil =>
        try dsimp only [cond_false, cond_true]
        all_goals rfl
      | cons y_1386 y_1387 =>
        try dsimp only [cond_false, cond_true]
        all_goals
          cases hq_3 : (Nat.beq h_0 y_1386) with
          | false =>
            try dsimp only [cond_false, cond_true]
            all_goals rfl
          | true =>
            try dsimp only [cond_false, cond_true]
            all_goals rfl
noncomputable def conLe (tab : Tb) (fs : List Ln) (θ : Th) (p a : List Sg) : Bool :=
  (List.rec (motive := fun _ => Bool) false (fun x_1388 x_1389 _ => (Sum.rec (motive := fun _ => Bool) (fun e_1390 => (List.rec (motive := fun _ => Bool) (List.rec (motive := fun _ => Bool) false (fun x_1394 x_1395 _ => (Sum.rec (motive := fun _ => Bool) (fun e_1396 => (List.rec (motive := fun _ => Bool) (eqL tab fs (sbL θ e_1390) e_1396) (fun x_1398 x_1399 _ => false) x_1395)) (fun x_1397 => false) x_1394)) a) (fun x_1392 x_1393 _ => false) x_1389)) (fun x_1391 => false) x_1388)) p)
theorem conLe_def (tab : Tb) (fs : List Ln) (θ : Th) (p a : List Sg) : conLe tab fs θ p a = (match p, a with
  | [.inl e], [.inl e'] => eqL tab fs (sbL θ e) e'
  | _, _ => false) := by
  show (List.rec (motive := fun _ => Bool) false (fun x_1388 x_1389 _ => (Sum.rec (motive := fun _ => Bool) (fun e_1390 => (List.rec (motive := fun _ => Bool) (List.rec (motive := fun _ => Bool) false (fun x_1394 x_1395 _ => (Sum.rec (motive := fun _ => Bool) (fun e_1396 => (List.rec (motive := fun _ => Bool) (eqL tab fs (sbL θ e_1390) e_1396) (fun x_1398 x_1399 _ => false) x_1395)) (fun x_1397 => false) x_1394)) a) (fun x_1392 x_1393 _ => false) x_1389)) (fun x_1391 => false) x_1388)) p) = _
  all_goals
    cases p with
    | nil =>
      try dsimp only [cond_false, cond_true]
      all_goals rfl
    | cons y_1400 y_1401 =>
      try dsimp only [cond_false, cond_true]
      all_goals
        cases y_1400 with
        | inl y_1402 =>
          try dsimp only [cond_false, cond_true]
          all_goals
            cases y_1401 with
            | nil =>
              try dsimp only [cond_false, cond_true]
              all_goals
                cases a with
                | nil =>
                  try dsimp only [cond_false, cond_true]
                  all_goals rfl
                | cons y_1403 y_1404 =>
                  try dsimp only [cond_false, cond_true]
                  all_goals
                    cases y_1403 with
                    | inl y_1405 =>
                      try dsimp only [cond_false, cond_true]
                      all_goals
                        cases y_1404 with
                        | nil =>
                          try dsimp only [cond_false, cond_true]
                          all_goals rfl
                        | cons y_1406 y_1407 =>
                          try dsimp only [cond_false, cond_true]
                          all_goals rfl
                    | inr y_1408 =>
                      try dsimp only [cond_false, cond_true]
                      all_goals rfl
            | cons y_1409 y_1410 =>
              try dsimp only [cond_false, cond_true]
              all_goals rfl
        | inr y_1411 =>
          try dsimp only [cond_false, cond_true]
          all_goals rfl
noncomputable def chkC (tab : Tb) (fs : List Ln) (θ : Th) (p a : AC) : Bool :=
  (Sum.rec (motive := fun _ => Bool) (fun x_1412 => (Prod.rec (motive := fun _ => Bool) (fun c_1414 l_1415 => (Sum.rec (motive := fun _ => Bool) (fun x_1416 => (Prod.rec (motive := fun _ => Bool) (fun c_1418 l_1419 => (Bool.rec (motive := fun _ => Bool) false (chkVs tab fs θ l_1415 l_1419) (Nat.beq c_1414 c_1418))) x_1416)) (fun x_1417 => false) a)) x_1412)) (fun x_1413 => (Prod.rec (motive := fun _ => Bool) (fun k_1420 x_1421 => (Sum.rec (motive := fun _ => Bool) (fun s_1422 => (Sum.rec (motive := fun _ => Bool) (fun x_1424 => false) (fun x_1425 => (Prod.rec (motive := fun _ => Bool) (fun k_1426 x_1427 => (Sum.rec (motive := fun _ => Bool) (fun s_1428 => (Bool.rec (motive := fun _ => Bool) false (Bool.rec (motive := fun _ => Bool) (conLe tab fs θ s_1422 s_1428) (sgLe tab fs θ (nat_lit 600) s_1422 s_1428) (Nat.blt k_1420 (nat_lit 100))) (Nat.beq k_1420 k_1426))) (fun x_1429 => false) x_1427)) x_1425)) a)) (fun x_1423 => (Sum.rec (motive := fun _ => Bool) (fun m_1430 => (Sum.rec (motive := fun _ => Bool) (fun x_1432 => false) (fun x_1433 => (Prod.rec (motive := fun _ => Bool) (fun k_1434 x_1435 => (Sum.rec (motive := fun _ => Bool) (fun x_1436 => false) (fun x_1437 => (Sum.rec (motive := fun _ => Bool) (fun m_1438 => (Bool.rec (motive := fun _ => Bool) false (Bool.rec (motive := fun _ => Bool) (Bool.rec (motive := fun _ => Bool) false (Nat.beq m_1438 (Nat.add zB m_1430)) (Nat.blt m_1430 zB)) true (Nat.beq m_1430 m_1438)) (Nat.beq k_1420 k_1434))) (fun x_1439 => false) x_1437)) x_1435)) x_1433)) a)) (fun l_1431 => (Sum.rec (motive := fun _ => Bool) (fun x_1440 => false) (fun x_1441 => (Prod.rec (motive := fun _ => Bool) (fun k_1442 x_1443 => (Sum.rec (motive := fun _ => Bool) (fun x_1444 => false) (fun x_1445 => (Sum.rec (motive := fun _ => Bool) (fun x_1446 => false) (fun l_1447 => (Bool.rec (motive := fun _ => Bool) false (eqO l_1431 l_1447) (Nat.beq k_1420 k_1442))) x_1445)) x_1443)) x_1441)) a)) x_1423)) x_1421)) x_1413)) p)
theorem chkC_def (tab : Tb) (fs : List Ln) (θ : Th) (p a : AC) : chkC tab fs θ p a = (match p, a with
  | .inl (c, l), .inl (c', l') => bif Nat.beq c c' then chkVs tab fs θ l l' else false
  | .inr (k, .inl s), .inr (k', .inl s') => bif Nat.beq k k' then (bif Nat.blt k 100 then sgLe tab fs θ 600 s s' else conLe tab fs θ s s') else false
  | .inr (k, .inr (.inl m)), .inr (k', .inr (.inl m')) => bif Nat.beq k k' then (bif Nat.beq m m' then true else bif Nat.blt m zB then Nat.beq m' (Nat.add zB m) else false) else false
  | .inr (k, .inr (.inr l)), .inr (k', .inr (.inr l')) => bif Nat.beq k k' then eqO l l' else false
  | _, _ => false) := by
  show (Sum.rec (motive := fun _ => Bool) (fun x_1412 => (Prod.rec (motive := fun _ => Bool) (fun c_1414 l_1415 => (Sum.rec (motive := fun _ => Bool) (fun x_1416 => (Prod.rec (motive := fun _ => Bool) (fun c_1418 l_1419 => (Bool.rec (motive := fun _ => Bool) false (chkVs tab fs θ l_1415 l_1419) (Nat.beq c_1414 c_1418))) x_1416)) (fun x_1417 => false) a)) x_1412)) (fun x_1413 => (Prod.rec (motive := fun _ => Bool) (fun k_1420 x_1421 => (Sum.rec (motive := fun _ => Bool) (fun s_1422 => (Sum.rec (motive := fun _ => Bool) (fun x_1424 => false) (fun x_1425 => (Prod.rec (motive := fun _ => Bool) (fun k_1426 x_1427 => (Sum.rec (motive := fun _ => Bool) (fun s_1428 => (Bool.rec (motive := fun _ => Bool) false (Bool.rec (motive := fun _ => Bool) (conLe tab fs θ s_1422 s_1428) (sgLe tab fs θ (nat_lit 600) s_1422 s_1428) (Nat.blt k_1420 (nat_lit 100))) (Nat.beq k_1420 k_1426))) (fun x_1429 => false) x_1427)) x_1425)) a)) (fun x_1423 => (Sum.rec (motive := fun _ => Bool) (fun m_1430 => (Sum.rec (motive := fun _ => Bool) (fun x_1432 => false) (fun x_1433 => (Prod.rec (motive := fun _ => Bool) (fun k_1434 x_1435 => (Sum.rec (motive := fun _ => Bool) (fun x_1436 => false) (fun x_1437 => (Sum.rec (motive := fun _ => Bool) (fun m_1438 => (Bool.rec (motive := fun _ => Bool) false (Bool.rec (motive := fun _ => Bool) (Bool.rec (motive := fun _ => Bool) false (Nat.beq m_1438 (Nat.add zB m_1430)) (Nat.blt m_1430 zB)) true (Nat.beq m_1430 m_1438)) (Nat.beq k_1420 k_1434))) (fun x_1439 => false) x_1437)) x_1435)) x_1433)) a)) (fun l_1431 => (Sum.rec (motive := fun _ => Bool) (fun x_1440 => false) (fun x_1441 => (Prod.rec (motive := fun _ => Bool) (fun k_1442 x_1443 => (Sum.rec (motive := fun _ => Bool) (fun x_1444 => false) (fun x_1445 => (Sum.rec (motive := fun _ => Bool) (fun x_1446 => false) (fun l_1447 => (Bool.rec (motive := fun _ => Bool) false (eqO l_1431 l_1447) (Nat.beq k_1420 k_1442))) x_1445)) x_1443)) x_1441)) a)) x_1423)) x_1421)) x_1413)) p) = _
  try simp only [iAddQ_eq, iMulQ_eq, iNegQ_eq, lenQ_eq, nthQ_eq, setQ_eq, appQ_eq, mapQ_eq, allQ_eq, anyQ_eq, dropQ_eq, takeQ_eq, revQ_eq, getDQ_eq, optLQ_eq, brecC]
  all_goals
    cases p with
    | inl y_1448 =>
      try dsimp only [cond_false, cond_true]
      all_goals
        cases y_1448 with
        | mk y_1449 y_1450 =>
          try dsimp only [cond_false, cond_true]
          all_goals
            cases a with
            | inl y_1451 =>
              try dsimp only [cond_false, cond_true]
              all_goals
                cases y_1451 with
                | mk y_1452 y_1453 =>
                  try dsimp only [cond_false, cond_true]
                  all_goals
                    cases hq_5 : (Nat.beq y_1449 y_1452) with
                    | false =>
                      try dsimp only [cond_false, cond_true]
                      all_goals rfl
                    | true =>
                      try dsimp only [cond_false, cond_true]
                      all_goals rfl
            | inr y_1454 =>
              try dsimp only [cond_false, cond_true]
              all_goals rfl
    | inr y_1455 =>
      try dsimp only [cond_false, cond_true]
      all_goals
        cases y_1455 with
        | mk y_1456 y_1457 =>
          try dsimp only [cond_false, cond_true]
          all_goals
            cases y_1457 with
            | inl y_1458 =>
              try dsimp only [cond_false, cond_true]
              all_goals
                cases a with
                | inl y_1459 =>
                  try dsimp only [cond_false, cond_true]
                  all_goals rfl
                | inr y_1460 =>
                  try dsimp only [cond_false, cond_true]
                  all_goals
                    cases y_1460 with
                    | mk y_1461 y_1462 =>
                      try dsimp only [cond_false, cond_true]
                      all_goals
                        cases y_1462 with
                        | inl y_1463 =>
                          try dsimp only [cond_false, cond_true]
                          all_goals
                            cases hq_11 : (Nat.beq y_1456 y_1461) with
                            | false =>
                              try dsimp only [cond_false, cond_true]
                              all_goals rfl
                            | true =>
                              try dsimp only [cond_false, cond_true]
                              all_goals
                                cases hq_12 : (Nat.blt y_1456 100) with
                                | false =>
                                  try dsimp only [cond_false, cond_true]
                                  all_goals rfl
                                | true =>
                                  try dsimp only [cond_false, cond_true]
                                  all_goals rfl
                        | inr y_1464 =>
                          try dsimp only [cond_false, cond_true]
                          all_goals rfl
            | inr y_1465 =>
              try dsimp only [cond_false, cond_true]
              all_goals
                cases y_1465 with
                | inl y_1466 =>
                  try dsimp only [cond_false, cond_true]
                  all_goals
                    cases a with
                    | inl y_1467 =>
                      try dsimp only [cond_false, cond_true]
                      all_goals rfl
                    | inr y_1468 =>
                      try dsimp only [cond_false, cond_true]
                      all_goals
                        cases y_1468 with
                        | mk y_1469 y_1470 =>
                          try dsimp only [cond_false, cond_true]
                          all_goals
                            cases y_1470 with
                            | inl y_1471 =>
                              try dsimp only [cond_false, cond_true]
                              all_goals rfl
                            | inr y_1472 =>
                              try dsimp only [cond_false, cond_true]
                              all_goals
                                cases y_1472 with
                                | inl y_1473 =>
                                  try dsimp only [cond_false, cond_true]
                                  all_goals
                                    cases hq_18 : (Nat.beq y_1456 y_1469) with
                                    | false =>
                                      try dsimp only [cond_false, cond_true]
                                      all_goals rfl
                                    | true =>
                                      try dsimp only [cond_false, cond_true]
                                      all_goals
                                        cases hq_19 : (Nat.beq y_1466 y_1473) with
                                        | false =>
                                          try dsimp only [cond_false, cond_true]
                                          all_goals
                                            cases hq_20 : (Nat.blt y_1466 zB) with
                                            | false =>
                                              try dsimp only [cond_false, cond_true]
                                              all_goals rfl
                                            | true =>
                                              try dsimp only [cond_false, cond_true]
                                              all_goals rfl
                                        | true =>
                                          try dsimp only [cond_false, cond_true]
                                          all_goals rfl
                                | inr y_1474 =>
                                  try dsimp only [cond_false, cond_true]
                                  all_goals rfl
                | inr y_1475 =>
                  try dsimp only [cond_false, cond_true]
                  all_goals
                    cases a with
                    | inl y_1476 =>
                      try dsimp only [cond_false, cond_true]
                      all_goals rfl
                    | inr y_1477 =>
                      try dsimp only [cond_false, cond_true]
                      all_goals
                        cases y_1477 with
                        | mk y_1478 y_1479 =>
                          try dsimp only [cond_false, cond_true]
                          all_goals
                            cases y_1479 with
                            | inl y_1480 =>
                              try dsimp only [cond_false, cond_true]
                              all_goals rfl
                            | inr y_1481 =>
                              try dsimp only [cond_false, cond_true]
                              all_goals
                                cases y_1481 with
                                | inl y_1482 =>
                                  try dsimp only [cond_false, cond_true]
                                  all_goals rfl
                                | inr y_1483 =>
                                  try dsimp only [cond_false, cond_true]
                                  all_goals
                                    cases hq_25 : (Nat.beq y_1456 y_1478) with
                                    | false =>
                                      try dsimp only [cond_false, cond_true]
                                      all_goals rfl
                                    | true =>
                                      try dsimp only [cond_false, cond_true]
                                      all_goals rfl
noncomputable def chkH (tab : Tb) (fs : List Ln) (θ : Th) : AH → AH → Bool :=
  fun e_0 e_1 => List.rec (motive := fun _ => AH → Bool) (fun e_1 => (List.rec (motive := fun _ => Bool) true (fun x_1484 x_1485 _ => false) e_1)) (fun h_0 t_0 ih e_1 => (List.rec (motive := fun _ => Bool) false (fun a_1486 q_1487 _ => (Bool.rec (motive := fun _ => Bool) false (ih q_1487) (chkC tab fs θ h_0 a_1486))) e_1)) e_0 e_1
theorem chkH_def (tab : Tb) (fs : List Ln) (θ : Th) (e_0 : AH) (e_1 : AH) : chkH tab fs θ e_0 e_1 = (match e_0, e_1 with
  | [], [] => true
  | p :: r, a :: q => bif chkC tab fs θ p a then chkH tab fs θ r q else false
  | _, _ => false) := by
  cases e_0 with
  | nil =>
    show (List.rec (motive := fun _ => Bool) true (fun x_1488 x_1489 _ => false) e_1) = _
    try simp only [iAddQ_eq, iMulQ_eq, iNegQ_eq, lenQ_eq, nthQ_eq, setQ_eq, appQ_eq, mapQ_eq, allQ_eq, anyQ_eq, dropQ_eq, takeQ_eq, revQ_eq, getDQ_eq, optLQ_eq, brecC]
    all_goals
      cases e_1 with
      | nil =>
        try dsimp only [cond_false, cond_true]
        all_goals rfl
      | cons y_1490 y_1491 =>
        try dsimp only [cond_false, cond_true]
        all_goals rfl
  | cons h_0 t_0 =>
    show (List.rec (motive := fun _ => Bool) false (fun a_1492 q_1493 _ => (Bool.rec (motive := fun _ => Bool) false (chkH tab fs θ t_0 q_1493) (chkC tab fs θ h_0 a_1492))) e_1) = _
    try simp only [iAddQ_eq, iMulQ_eq, iNegQ_eq, lenQ_eq, nthQ_eq, setQ_eq, appQ_eq, mapQ_eq, allQ_eq, anyQ_eq, dropQ_eq, takeQ_eq, revQ_eq, getDQ_eq, optLQ_eq, brecC]
    all_goals
      cases e_1 with
      | nil =>
        try dsimp only [cond_false, cond_true]
        all_goals rfl
      | cons y_1494 y_1495 =>
        try dsimp only [cond_false, cond_true]
        all_goals
          cases hq_3 : (chkC tab fs θ h_0 y_1494) with
          | false =>
            try dsimp only [cond_false, cond_true]
            all_goals rfl
          | true =>
            try dsimp only [cond_false, cond_true]
            all_goals rfl
noncomputable def uniP1 (tab : Tb) (fs : List Ln) (θ : Un) (p : PD) : List PD → Un :=
  fun e_0 => List.rec (motive := fun _ => Un) θ (fun h_0 t_0 ih => (Bool.rec (motive := fun _ => Un) (ih) (uniN θ p.2.2 h_0.2.2) (Bool.rec (motive := fun _ => Bool) false (Bool.rec (motive := fun _ => Bool) false (okNums tab fs θ p.2.2 h_0.2.2) (eqN p.2.1 h_0.2.1)) (Nat.beq p.1 h_0.1)))) e_0 
theorem uniP1_def (tab : Tb) (fs : List Ln) (θ : Un) (p : PD) (e_0 : List PD) : uniP1 tab fs θ p e_0 = (match e_0 with
  | [] => θ
  | q :: r => bif (bif Nat.beq p.1 q.1 then (bif eqN p.2.1 q.2.1 then okNums tab fs θ p.2.2 q.2.2 else false) else false) then uniN θ p.2.2 q.2.2 else uniP1 tab fs θ p r) := by
  cases e_0 with
  | nil =>
    show θ = _
    try simp only [iAddQ_eq, iMulQ_eq, iNegQ_eq, lenQ_eq, nthQ_eq, setQ_eq, appQ_eq, mapQ_eq, allQ_eq, anyQ_eq, dropQ_eq, takeQ_eq, revQ_eq, getDQ_eq, optLQ_eq, brecC]
    all_goals rfl
  | cons h_0 t_0 =>
    show (Bool.rec (motive := fun _ => Un) (uniP1 tab fs θ p t_0) (uniN θ p.2.2 h_0.2.2) (Bool.rec (motive := fun _ => Bool) false (Bool.rec (motive := fun _ => Bool) false (okNums tab fs θ p.2.2 h_0.2.2) (eqN p.2.1 h_0.2.1)) (Nat.beq p.1 h_0.1))) = _
    try simp only [iAddQ_eq, iMulQ_eq, iNegQ_eq, lenQ_eq, nthQ_eq, setQ_eq, appQ_eq, mapQ_eq, allQ_eq, anyQ_eq, dropQ_eq, takeQ_eq, revQ_eq, getDQ_eq, optLQ_eq, brecC]
    all_goals
      cases hq_1 : ((bif (Nat.beq p.1 h_0.1) then ((bif (eqN p.2.1 h_0.2.1) then (okNums tab fs θ p.2.2 h_0.2.2) else false)) else false)) with
      | false =>
        try dsimp only [cond_false, cond_true]
        all_goals rfl
      | true =>
        try dsimp only [cond_false, cond_true]
        all_goals rfl
noncomputable def uniP (tab : Tb) (fs : List Ln) (a : List PD) : Un → List PD → Un :=
  fun θ e_0 => List.rec (motive := fun _ => Un → Un) (fun θ => θ) (fun h_0 t_0 ih θ => (Prod.rec (motive := fun _ => Un) (fun k_1496 x_1497 => (Prod.rec (motive := fun _ => Un) (fun l_1498 x_1499 => (List.rec (motive := fun _ => Un) (ih θ) (fun x_1500 x_1501 _ => (ih (uniP1 tab fs θ h_0 a))) x_1499)) x_1497)) h_0)) e_0 θ
theorem uniP_def (tab : Tb) (fs : List Ln) (a : List PD) (θ : Un) (e_0 : List PD) : uniP tab fs a θ e_0 = (match e_0 with
  | [] => θ
  | (k, l, []) :: r => uniP tab fs a θ r
  | p :: r => uniP tab fs a (uniP1 tab fs θ p a) r) := by
  cases e_0 with
  | nil =>
    show θ = _
    try simp only [iAddQ_eq, iMulQ_eq, iNegQ_eq, lenQ_eq, nthQ_eq, setQ_eq, appQ_eq, mapQ_eq, allQ_eq, anyQ_eq, dropQ_eq, takeQ_eq, revQ_eq, getDQ_eq, optLQ_eq, brecC]
    all_goals rfl
  | cons h_0 t_0 =>
    show (Prod.rec (motive := fun _ => Un) (fun k_1502 x_1503 => (Prod.rec (motive := fun _ => Un) (fun l_1504 x_1505 => (List.rec (motive := fun _ => Un) (uniP tab fs a θ t_0) (fun x_1506 x_1507 _ => (uniP tab fs a (uniP1 tab fs θ h_0 a) t_0)) x_1505)) x_1503)) h_0) = _
    try simp only [iAddQ_eq, iMulQ_eq, iNegQ_eq, lenQ_eq, nthQ_eq, setQ_eq, appQ_eq, mapQ_eq, allQ_eq, anyQ_eq, dropQ_eq, takeQ_eq, revQ_eq, getDQ_eq, optLQ_eq, brecC]
    all_goals
      cases h_0 with
      | mk y_1508 y_1509 =>
        try dsimp only [cond_false, cond_true]
        all_goals
          cases y_1509 with
          | mk y_1510 y_1511 =>
            try dsimp only [cond_false, cond_true]
            all_goals
              cases y_1511 with
              | nil =>
                try dsimp only [cond_false, cond_true]
                all_goals rfl
              | cons y_1512 y_1513 =>
                try dsimp only [cond_false, cond_true]
                all_goals rfl
noncomputable def chkN (tab : Tb) (fs : List Ln) (θ : Th) : List Ln → List Ln → Bool :=
  fun e_0 e_1 => List.rec (motive := fun _ => List Ln → Bool) (fun e_1 => (List.rec (motive := fun _ => Bool) true (fun x_1514 x_1515 _ => false) e_1)) (fun h_0 t_0 ih e_1 => (List.rec (motive := fun _ => Bool) false (fun a_1516 q_1517 _ => (Bool.rec (motive := fun _ => Bool) false (ih q_1517) (eqL tab fs (sbL θ h_0) a_1516))) e_1)) e_0 e_1
theorem chkN_def (tab : Tb) (fs : List Ln) (θ : Th) (e_0 : List Ln) (e_1 : List Ln) : chkN tab fs θ e_0 e_1 = (match e_0, e_1 with
  | [], [] => true
  | p :: r, a :: q => bif eqL tab fs (sbL θ p) a then chkN tab fs θ r q else false
  | _, _ => false) := by
  cases e_0 with
  | nil =>
    show (List.rec (motive := fun _ => Bool) true (fun x_1518 x_1519 _ => false) e_1) = _
    try simp only [iAddQ_eq, iMulQ_eq, iNegQ_eq, lenQ_eq, nthQ_eq, setQ_eq, appQ_eq, mapQ_eq, allQ_eq, anyQ_eq, dropQ_eq, takeQ_eq, revQ_eq, getDQ_eq, optLQ_eq, brecC]
    all_goals
      cases e_1 with
      | nil =>
        try dsimp only [cond_false, cond_true]
        all_goals rfl
      | cons y_1520 y_1521 =>
        try dsimp only [cond_false, cond_true]
        all_goals rfl
  | cons h_0 t_0 =>
    show (List.rec (motive := fun _ => Bool) false (fun a_1522 q_1523 _ => (Bool.rec (motive := fun _ => Bool) false (chkN tab fs θ t_0 q_1523) (eqL tab fs (sbL θ h_0) a_1522))) e_1) = _
    try simp only [iAddQ_eq, iMulQ_eq, iNegQ_eq, lenQ_eq, nthQ_eq, setQ_eq, appQ_eq, mapQ_eq, allQ_eq, anyQ_eq, dropQ_eq, takeQ_eq, revQ_eq, getDQ_eq, optLQ_eq, brecC]
    all_goals
      cases e_1 with
      | nil =>
        try dsimp only [cond_false, cond_true]
        all_goals rfl
      | cons y_1524 y_1525 =>
        try dsimp only [cond_false, cond_true]
        all_goals
          cases hq_3 : (eqL tab fs ((sbL θ h_0)) y_1524) with
          | false =>
            try dsimp only [cond_false, cond_true]
            all_goals rfl
          | true =>
            try dsimp only [cond_false, cond_true]
            all_goals rfl
noncomputable def hasP (tab : Tb) (fs : List Ln) (θ : Th) (p : PD) : List PD → Bool :=
  fun e_0 => List.rec (motive := fun _ => Bool) false (fun h_0 t_0 ih => (Bool.rec (motive := fun _ => Bool) (ih) true (Bool.rec (motive := fun _ => Bool) false (Bool.rec (motive := fun _ => Bool) false (chkN tab fs θ p.2.2 h_0.2.2) (eqN p.2.1 h_0.2.1)) (Nat.beq p.1 h_0.1)))) e_0 
theorem hasP_def (tab : Tb) (fs : List Ln) (θ : Th) (p : PD) (e_0 : List PD) : hasP tab fs θ p e_0 = (match e_0 with
  | [] => false
  | q :: r => bif (bif Nat.beq p.1 q.1 then (bif eqN p.2.1 q.2.1 then chkN tab fs θ p.2.2 q.2.2 else false) else false) then true else hasP tab fs θ p r) := by
  cases e_0 with
  | nil =>
    show false = _
    try simp only [iAddQ_eq, iMulQ_eq, iNegQ_eq, lenQ_eq, nthQ_eq, setQ_eq, appQ_eq, mapQ_eq, allQ_eq, anyQ_eq, dropQ_eq, takeQ_eq, revQ_eq, getDQ_eq, optLQ_eq, brecC]
    all_goals rfl
  | cons h_0 t_0 =>
    show (Bool.rec (motive := fun _ => Bool) (hasP tab fs θ p t_0) true (Bool.rec (motive := fun _ => Bool) false (Bool.rec (motive := fun _ => Bool) false (chkN tab fs θ p.2.2 h_0.2.2) (eqN p.2.1 h_0.2.1)) (Nat.beq p.1 h_0.1))) = _
    try simp only [iAddQ_eq, iMulQ_eq, iNegQ_eq, lenQ_eq, nthQ_eq, setQ_eq, appQ_eq, mapQ_eq, allQ_eq, anyQ_eq, dropQ_eq, takeQ_eq, revQ_eq, getDQ_eq, optLQ_eq, brecC]
    all_goals
      cases hq_1 : ((bif (Nat.beq p.1 h_0.1) then ((bif (eqN p.2.1 h_0.2.1) then (chkN tab fs θ p.2.2 h_0.2.2) else false)) else false)) with
      | false =>
        try dsimp only [cond_false, cond_true]
        all_goals rfl
      | true =>
        try dsimp only [cond_false, cond_true]
        all_goals rfl
noncomputable def chkP (tab : Tb) (fs : List Ln) (θ : Th) (a : List PD) : List PD → Bool :=
  fun e_0 => List.rec (motive := fun _ => Bool) true (fun h_0 t_0 ih => (Bool.rec (motive := fun _ => Bool) false (ih) (hasP tab fs θ h_0 a))) e_0 
theorem chkP_def (tab : Tb) (fs : List Ln) (θ : Th) (a : List PD) (e_0 : List PD) : chkP tab fs θ a e_0 = (match e_0 with
  | [] => true
  | p :: r => bif hasP tab fs θ p a then chkP tab fs θ a r else false) := by
  cases e_0 with
  | nil =>
    show true = _
    try simp only [iAddQ_eq, iMulQ_eq, iNegQ_eq, lenQ_eq, nthQ_eq, setQ_eq, appQ_eq, mapQ_eq, allQ_eq, anyQ_eq, dropQ_eq, takeQ_eq, revQ_eq, getDQ_eq, optLQ_eq, brecC]
    all_goals rfl
  | cons h_0 t_0 =>
    show (Bool.rec (motive := fun _ => Bool) false (chkP tab fs θ a t_0) (hasP tab fs θ h_0 a)) = _
    try simp only [iAddQ_eq, iMulQ_eq, iNegQ_eq, lenQ_eq, nthQ_eq, setQ_eq, appQ_eq, mapQ_eq, allQ_eq, anyQ_eq, dropQ_eq, takeQ_eq, revQ_eq, getDQ_eq, optLQ_eq, brecC]
    all_goals
      cases hq_1 : (hasP tab fs θ h_0 a) with
      | false =>
        try dsimp only [cond_false, cond_true]
        all_goals rfl
      | true =>
        try dsimp only [cond_false, cond_true]
        all_goals rfl
noncomputable def chkT (tab : Tb) (fs : List Ln) (θ : Th) : TbL → Bool :=
  fun e_0 => List.rec (motive := fun _ => Bool) true (fun h_0 t_0 ih => (Prod.rec (motive := fun _ => Bool) (fun s_1526 x_1527 => (Prod.rec (motive := fun _ => Bool) (fun lo_1528 hi_1529 => (Bool.rec (motive := fun _ => Bool) false (ih) (inF tab fs lo_1528 hi_1529 (θ s_1526)))) x_1527)) h_0)) e_0 
theorem chkT_def (tab : Tb) (fs : List Ln) (θ : Th) (e_0 : TbL) : chkT tab fs θ e_0 = (match e_0 with
  | [] => true
  | (s, lo, hi) :: r => bif inF tab fs lo hi (θ s) then chkT tab fs θ r else false) := by
  cases e_0 with
  | nil =>
    show true = _
    try simp only [iAddQ_eq, iMulQ_eq, iNegQ_eq, lenQ_eq, nthQ_eq, setQ_eq, appQ_eq, mapQ_eq, allQ_eq, anyQ_eq, dropQ_eq, takeQ_eq, revQ_eq, getDQ_eq, optLQ_eq, brecC]
    all_goals rfl
  | cons h_0 t_0 =>
    show (Prod.rec (motive := fun _ => Bool) (fun s_1530 x_1531 => (Prod.rec (motive := fun _ => Bool) (fun lo_1532 hi_1533 => (Bool.rec (motive := fun _ => Bool) false (chkT tab fs θ t_0) (inF tab fs lo_1532 hi_1533 (θ s_1530)))) x_1531)) h_0) = _
    try simp only [iAddQ_eq, iMulQ_eq, iNegQ_eq, lenQ_eq, nthQ_eq, setQ_eq, appQ_eq, mapQ_eq, allQ_eq, anyQ_eq, dropQ_eq, takeQ_eq, revQ_eq, getDQ_eq, optLQ_eq, brecC]
    all_goals
      cases h_0 with
      | mk y_1534 y_1535 =>
        try dsimp only [cond_false, cond_true]
        all_goals
          cases y_1535 with
          | mk y_1536 y_1537 =>
            try dsimp only [cond_false, cond_true]
            all_goals
              cases hq_3 : (inF tab fs y_1536 y_1537 ((θ y_1534))) with
              | false =>
                try dsimp only [cond_false, cond_true]
                all_goals rfl
              | true =>
                try dsimp only [cond_false, cond_true]
                all_goals rfl
noncomputable def chkF (tab : Tb) (fs : List Ln) (θ : Th) : List Ln → Bool :=
  fun e_0 => List.rec (motive := fun _ => Bool) true (fun h_0 t_0 ih => (Bool.rec (motive := fun _ => Bool) false (ih) (le0 tab fs (sbL θ h_0)))) e_0 
theorem chkF_def (tab : Tb) (fs : List Ln) (θ : Th) (e_0 : List Ln) : chkF tab fs θ e_0 = (match e_0 with
  | [] => true
  | f :: r => bif le0 tab fs (sbL θ f) then chkF tab fs θ r else false) := by
  cases e_0 with
  | nil =>
    show true = _
    try simp only [iAddQ_eq, iMulQ_eq, iNegQ_eq, lenQ_eq, nthQ_eq, setQ_eq, appQ_eq, mapQ_eq, allQ_eq, anyQ_eq, dropQ_eq, takeQ_eq, revQ_eq, getDQ_eq, optLQ_eq, brecC]
    all_goals rfl
  | cons h_0 t_0 =>
    show (Bool.rec (motive := fun _ => Bool) false (chkF tab fs θ t_0) (le0 tab fs (sbL θ h_0))) = _
    try simp only [iAddQ_eq, iMulQ_eq, iNegQ_eq, lenQ_eq, nthQ_eq, setQ_eq, appQ_eq, mapQ_eq, allQ_eq, anyQ_eq, dropQ_eq, takeQ_eq, revQ_eq, getDQ_eq, optLQ_eq, brecC]
    all_goals
      cases hq_1 : (le0 tab fs ((sbL θ h_0))) with
      | false =>
        try dsimp only [cond_false, cond_true]
        all_goals rfl
      | true =>
        try dsimp only [cond_false, cond_true]
        all_goals rfl
noncomputable def scV (n : Nat) (a : AV) : Bool := match a with
  | .inl (_, e) => scL n e
  | .inr (.inr (p, q)) => bif scL n p then scL n q else false
  | _ => true
noncomputable def scS (n : Nat) (s : Sg) : Bool := match s with
  | .inl e => scL n e
  | _ => true
noncomputable def scC (n : Nat) (c : AC) : Bool := match c with
  | .inl (_, as) => as.all (scV n)
  | .inr (_, .inl s) => s.all (scS n)
  | _ => true
-- the same text
noncomputable def eqLn (a b : Ln) : Bool :=
  (Bool.rec (motive := fun _ => Bool) false (eqT a.2 b.2) (eqI a.1 b.1))
theorem eqLn_def (a b : Ln) : eqLn a b = bif eqI a.1 b.1 then eqT a.2 b.2 else false := by
  show (Bool.rec (motive := fun _ => Bool) false (eqT a.2 b.2) (eqI a.1 b.1)) = _
  try simp only [iAddQ_eq, iMulQ_eq, iNegQ_eq, lenQ_eq, nthQ_eq, setQ_eq, appQ_eq, mapQ_eq, allQ_eq, anyQ_eq, dropQ_eq, takeQ_eq, revQ_eq, getDQ_eq, optLQ_eq, brecC]
  all_goals
    cases hq_1 : (eqI a.1 b.1) with
    | false =>
      try dsimp only [cond_false, cond_true]
      all_goals rfl
    | true =>
      try dsimp only [cond_false, cond_true]
      all_goals rfl
noncomputable def eqAV (p a : AV) : Bool :=
  (Sum.rec (motive := fun _ => Bool) (fun x_1538 => (Prod.rec (motive := fun _ => Bool) (fun b_1540 e_1541 => (Sum.rec (motive := fun _ => Bool) (fun x_1542 => (Prod.rec (motive := fun _ => Bool) (fun b_1544 e_1545 => (Bool.rec (motive := fun _ => Bool) false (eqLn e_1541 e_1545) (lnB b_1540 b_1544))) x_1542)) (fun x_1543 => false) a)) x_1538)) (fun x_1539 => (Sum.rec (motive := fun _ => Bool) (fun x_1546 => (Option.rec (motive := fun _ => Bool) (Sum.rec (motive := fun _ => Bool) (fun x_1549 => false) (fun x_1550 => (Sum.rec (motive := fun _ => Bool) (fun x_1551 => (Option.rec (motive := fun _ => Bool) true (fun x_1553 => false) x_1551)) (fun x_1552 => false) x_1550)) a) (fun i_1548 => (Sum.rec (motive := fun _ => Bool) (fun x_1554 => false) (fun x_1555 => (Sum.rec (motive := fun _ => Bool) (fun x_1556 => (Option.rec (motive := fun _ => Bool) false (fun j_1558 => (Nat.beq i_1548 j_1558)) x_1556)) (fun x_1557 => false) x_1555)) a)) x_1546)) (fun x_1547 => false) x_1539)) p)
theorem eqAV_def (p a : AV) : eqAV p a = (match p, a with
  | .inl (b, e), .inl (b', e') => bif lnB b b' then eqLn e e' else false
  | .inr (.inl (some i)), .inr (.inl (some j)) => Nat.beq i j
  | .inr (.inl none), .inr (.inl none) => true
  | _, _ => false) := by
  show (Sum.rec (motive := fun _ => Bool) (fun x_1538 => (Prod.rec (motive := fun _ => Bool) (fun b_1540 e_1541 => (Sum.rec (motive := fun _ => Bool) (fun x_1542 => (Prod.rec (motive := fun _ => Bool) (fun b_1544 e_1545 => (Bool.rec (motive := fun _ => Bool) false (eqLn e_1541 e_1545) (lnB b_1540 b_1544))) x_1542)) (fun x_1543 => false) a)) x_1538)) (fun x_1539 => (Sum.rec (motive := fun _ => Bool) (fun x_1546 => (Option.rec (motive := fun _ => Bool) (Sum.rec (motive := fun _ => Bool) (fun x_1549 => false) (fun x_1550 => (Sum.rec (motive := fun _ => Bool) (fun x_1551 => (Option.rec (motive := fun _ => Bool) true (fun x_1553 => false) x_1551)) (fun x_1552 => false) x_1550)) a) (fun i_1548 => (Sum.rec (motive := fun _ => Bool) (fun x_1554 => false) (fun x_1555 => (Sum.rec (motive := fun _ => Bool) (fun x_1556 => (Option.rec (motive := fun _ => Bool) false (fun j_1558 => (Nat.beq i_1548 j_1558)) x_1556)) (fun x_1557 => false) x_1555)) a)) x_1546)) (fun x_1547 => false) x_1539)) p) = _
  try simp only [iAddQ_eq, iMulQ_eq, iNegQ_eq, lenQ_eq, nthQ_eq, setQ_eq, appQ_eq, mapQ_eq, allQ_eq, anyQ_eq, dropQ_eq, takeQ_eq, revQ_eq, getDQ_eq, optLQ_eq, brecC]
  all_goals
    cases p with
    | inl y_1559 =>
      try dsimp only [cond_false, cond_true]
      all_goals
        cases y_1559 with
        | mk y_1560 y_1561 =>
          try dsimp only [cond_false, cond_true]
          all_goals
            cases a with
            | inl y_1562 =>
              try dsimp only [cond_false, cond_true]
              all_goals
                cases y_1562 with
                | mk y_1563 y_1564 =>
                  try dsimp only [cond_false, cond_true]
                  all_goals
                    cases hq_5 : (lnB y_1560 y_1563) with
                    | false =>
                      try dsimp only [cond_false, cond_true]
                      all_goals rfl
                    | true =>
                      try dsimp only [cond_false, cond_true]
                      all_goals rfl
            | inr y_1565 =>
              try dsimp only [cond_false, cond_true]
              all_goals rfl
    | inr y_1566 =>
      try dsimp only [cond_false, cond_true]
      all_goals
        cases y_1566 with
        | inl y_1567 =>
          try dsimp only [cond_false, cond_true]
          all_goals
            cases y_1567 with
            | none =>
              try dsimp only [cond_false, cond_true]
              all_goals
                cases a with
                | inl y_1568 =>
                  try dsimp only [cond_false, cond_true]
                  all_goals rfl
                | inr y_1569 =>
                  try dsimp only [cond_false, cond_true]
                  all_goals
                    cases y_1569 with
                    | inl y_1570 =>
                      try dsimp only [cond_false, cond_true]
                      all_goals
                        cases y_1570 with
                        | none =>
                          try dsimp only [cond_false, cond_true]
                          all_goals rfl
                        | some y_1571 =>
                          try dsimp only [cond_false, cond_true]
                          all_goals rfl
                    | inr y_1572 =>
                      try dsimp only [cond_false, cond_true]
                      all_goals rfl
            | some y_1573 =>
              try dsimp only [cond_false, cond_true]
              all_goals
                cases a with
                | inl y_1574 =>
                  try dsimp only [cond_false, cond_true]
                  all_goals rfl
                | inr y_1575 =>
                  try dsimp only [cond_false, cond_true]
                  all_goals
                    cases y_1575 with
                    | inl y_1576 =>
                      try dsimp only [cond_false, cond_true]
                      all_goals
                        cases y_1576 with
                        | none =>
                          try dsimp only [cond_false, cond_true]
                          all_goals rfl
                        | some y_1577 =>
                          try dsimp only [cond_false, cond_true]
                          all_goals rfl
                    | inr y_1578 =>
                      try dsimp only [cond_false, cond_true]
                      all_goals rfl
        | inr y_1579 =>
          try dsimp only [cond_false, cond_true]
          all_goals rfl
noncomputable def eqAVs  : List AV → List AV → Bool :=
  fun e_0 e_1 => List.rec (motive := fun _ => List AV → Bool) (fun e_1 => (List.rec (motive := fun _ => Bool) true (fun x_1580 x_1581 _ => false) e_1)) (fun h_0 t_0 ih e_1 => (List.rec (motive := fun _ => Bool) false (fun a_1582 q_1583 _ => (Bool.rec (motive := fun _ => Bool) false (ih q_1583) (eqAV h_0 a_1582))) e_1)) e_0 e_1
theorem eqAVs_def  (e_0 : List AV) (e_1 : List AV) : eqAVs  e_0 e_1 = (match e_0, e_1 with
  | [], [] => true
  | p :: r, a :: q => bif eqAV p a then eqAVs r q else false
  | _, _ => false) := by
  cases e_0 with
  | nil =>
    show (List.rec (motive := fun _ => Bool) true (fun x_1584 x_1585 _ => false) e_1) = _
    try simp only [iAddQ_eq, iMulQ_eq, iNegQ_eq, lenQ_eq, nthQ_eq, setQ_eq, appQ_eq, mapQ_eq, allQ_eq, anyQ_eq, dropQ_eq, takeQ_eq, revQ_eq, getDQ_eq, optLQ_eq, brecC]
    all_goals
      cases e_1 with
      | nil =>
        try dsimp only [cond_false, cond_true]
        all_goals rfl
      | cons y_1586 y_1587 =>
        try dsimp only [cond_false, cond_true]
        all_goals rfl
  | cons h_0 t_0 =>
    show (List.rec (motive := fun _ => Bool) false (fun a_1588 q_1589 _ => (Bool.rec (motive := fun _ => Bool) false (eqAVs t_0 q_1589) (eqAV h_0 a_1588))) e_1) = _
    try simp only [iAddQ_eq, iMulQ_eq, iNegQ_eq, lenQ_eq, nthQ_eq, setQ_eq, appQ_eq, mapQ_eq, allQ_eq, anyQ_eq, dropQ_eq, takeQ_eq, revQ_eq, getDQ_eq, optLQ_eq, brecC]
    all_goals
      cases e_1 with
      | nil =>
        try dsimp only [cond_false, cond_true]
        all_goals rfl
      | cons y_1590 y_1591 =>
        try dsimp only [cond_false, cond_true]
        all_goals
          cases hq_3 : (eqAV h_0 y_1590) with
          | false =>
            try dsimp only [cond_false, cond_true]
            all_goals rfl
          | true =>
            try dsimp only [cond_false, cond_true]
            all_goals rfl
noncomputable def eqSg (p a : Sg) : Bool :=
  (Sum.rec (motive := fun _ => Bool) (fun e_1592 => (Sum.rec (motive := fun _ => Bool) (fun e_1594 => (eqLn e_1592 e_1594)) (fun x_1595 => false) a)) (fun x_1593 => (Prod.rec (motive := fun _ => Bool) (fun m_1596 x_1597 => (Prod.rec (motive := fun _ => Bool) (fun lo_1598 hi_1599 => (Sum.rec (motive := fun _ => Bool) (fun x_1600 => false) (fun x_1601 => (Prod.rec (motive := fun _ => Bool) (fun m_1602 x_1603 => (Prod.rec (motive := fun _ => Bool) (fun lo_1604 hi_1605 => (Bool.rec (motive := fun _ => Bool) false (Bool.rec (motive := fun _ => Bool) false (eqI hi_1599 hi_1605) (eqI lo_1598 lo_1604)) (Nat.beq m_1596 m_1602))) x_1603)) x_1601)) a)) x_1597)) x_1593)) p)
theorem eqSg_def (p a : Sg) : eqSg p a = (match p, a with
  | .inl e, .inl e' => eqLn e e'
  | .inr (m, lo, hi), .inr (m', lo', hi') => bif Nat.beq m m' then (bif eqI lo lo' then eqI hi hi' else false) else false
  | _, _ => false) := by
  show (Sum.rec (motive := fun _ => Bool) (fun e_1592 => (Sum.rec (motive := fun _ => Bool) (fun e_1594 => (eqLn e_1592 e_1594)) (fun x_1595 => false) a)) (fun x_1593 => (Prod.rec (motive := fun _ => Bool) (fun m_1596 x_1597 => (Prod.rec (motive := fun _ => Bool) (fun lo_1598 hi_1599 => (Sum.rec (motive := fun _ => Bool) (fun x_1600 => false) (fun x_1601 => (Prod.rec (motive := fun _ => Bool) (fun m_1602 x_1603 => (Prod.rec (motive := fun _ => Bool) (fun lo_1604 hi_1605 => (Bool.rec (motive := fun _ => Bool) false (Bool.rec (motive := fun _ => Bool) false (eqI hi_1599 hi_1605) (eqI lo_1598 lo_1604)) (Nat.beq m_1596 m_1602))) x_1603)) x_1601)) a)) x_1597)) x_1593)) p) = _
  try simp only [iAddQ_eq, iMulQ_eq, iNegQ_eq, lenQ_eq, nthQ_eq, setQ_eq, appQ_eq, mapQ_eq, allQ_eq, anyQ_eq, dropQ_eq, takeQ_eq, revQ_eq, getDQ_eq, optLQ_eq, brecC]
  all_goals
    cases p with
    | inl y_1606 =>
      try dsimp only [cond_false, cond_true]
      all_goals
        cases a with
        | inl y_1607 =>
          try dsimp only [cond_false, cond_true]
          all_goals rfl
        | inr y_1608 =>
          try dsimp only [cond_false, cond_true]
          all_goals rfl
    | inr y_1609 =>
      try dsimp only [cond_false, cond_true]
      all_goals
        cases y_1609 with
        | mk y_1610 y_1611 =>
          try dsimp only [cond_false, cond_true]
          all_goals
            cases y_1611 with
            | mk y_1612 y_1613 =>
              try dsimp only [cond_false, cond_true]
              all_goals
                cases a with
                | inl y_1614 =>
                  try dsimp only [cond_false, cond_true]
                  all_goals rfl
                | inr y_1615 =>
                  try dsimp only [cond_false, cond_true]
                  all_goals
                    cases y_1615 with
                    | mk y_1616 y_1617 =>
                      try dsimp only [cond_false, cond_true]
                      all_goals
                        cases y_1617 with
                        | mk y_1618 y_1619 =>
                          try dsimp only [cond_false, cond_true]
                          all_goals
                            cases hq_8 : (Nat.beq y_1610 y_1616) with
                            | false =>
                              try dsimp only [cond_false, cond_true]
                              all_goals rfl
                            | true =>
                              try dsimp only [cond_false, cond_true]
                              all_goals
                                cases hq_9 : (eqI y_1612 y_1618) with
                                | false =>
                                  try dsimp only [cond_false, cond_true]
                                  all_goals rfl
                                | true =>
                                  try dsimp only [cond_false, cond_true]
                                  all_goals rfl
noncomputable def eqSgs  : List Sg → List Sg → Bool :=
  fun e_0 e_1 => List.rec (motive := fun _ => List Sg → Bool) (fun e_1 => (List.rec (motive := fun _ => Bool) true (fun x_1620 x_1621 _ => false) e_1)) (fun h_0 t_0 ih e_1 => (List.rec (motive := fun _ => Bool) false (fun a_1622 q_1623 _ => (Bool.rec (motive := fun _ => Bool) false (ih q_1623) (eqSg h_0 a_1622))) e_1)) e_0 e_1
theorem eqSgs_def  (e_0 : List Sg) (e_1 : List Sg) : eqSgs  e_0 e_1 = (match e_0, e_1 with
  | [], [] => true
  | p :: r, a :: q => bif eqSg p a then eqSgs r q else false
  | _, _ => false) := by
  cases e_0 with
  | nil =>
    show (List.rec (motive := fun _ => Bool) true (fun x_1624 x_1625 _ => false) e_1) = _
    try simp only [iAddQ_eq, iMulQ_eq, iNegQ_eq, lenQ_eq, nthQ_eq, setQ_eq, appQ_eq, mapQ_eq, allQ_eq, anyQ_eq, dropQ_eq, takeQ_eq, revQ_eq, getDQ_eq, optLQ_eq, brecC]
    all_goals
      cases e_1 with
      | nil =>
        try dsimp only [cond_false, cond_true]
        all_goals rfl
      | cons y_1626 y_1627 =>
        try dsimp only [cond_false, cond_true]
        all_goals rfl
  | cons h_0 t_0 =>
    show (List.rec (motive := fun _ => Bool) false (fun a_1628 q_1629 _ => (Bool.rec (motive := fun _ => Bool) false (eqSgs t_0 q_1629) (eqSg h_0 a_1628))) e_1) = _
    try simp only [iAddQ_eq, iMulQ_eq, iNegQ_eq, lenQ_eq, nthQ_eq, setQ_eq, appQ_eq, mapQ_eq, allQ_eq, anyQ_eq, dropQ_eq, takeQ_eq, revQ_eq, getDQ_eq, optLQ_eq, brecC]
    all_goals
      cases e_1 with
      | nil =>
        try dsimp only [cond_false, cond_true]
        all_goals rfl
      | cons y_1630 y_1631 =>
        try dsimp only [cond_false, cond_true]
        all_goals
          cases hq_3 : (eqSg h_0 y_1630) with
          | false =>
            try dsimp only [cond_false, cond_true]
            all_goals rfl
          | true =>
            try dsimp only [cond_false, cond_true]
            all_goals rfl
noncomputable def eqAC (p a : AC) : Bool :=
  (Sum.rec (motive := fun _ => Bool) (fun x_1632 => (Prod.rec (motive := fun _ => Bool) (fun c_1634 l_1635 => (Sum.rec (motive := fun _ => Bool) (fun x_1636 => (Prod.rec (motive := fun _ => Bool) (fun c_1638 l_1639 => (Bool.rec (motive := fun _ => Bool) false (eqAVs l_1635 l_1639) (Nat.beq c_1634 c_1638))) x_1636)) (fun x_1637 => false) a)) x_1632)) (fun x_1633 => (Prod.rec (motive := fun _ => Bool) (fun k_1640 x_1641 => (Sum.rec (motive := fun _ => Bool) (fun s_1642 => (Sum.rec (motive := fun _ => Bool) (fun x_1644 => false) (fun x_1645 => (Prod.rec (motive := fun _ => Bool) (fun k_1646 x_1647 => (Sum.rec (motive := fun _ => Bool) (fun s_1648 => (Bool.rec (motive := fun _ => Bool) false (eqSgs s_1642 s_1648) (Nat.beq k_1640 k_1646))) (fun x_1649 => false) x_1647)) x_1645)) a)) (fun x_1643 => (Sum.rec (motive := fun _ => Bool) (fun m_1650 => (Sum.rec (motive := fun _ => Bool) (fun x_1652 => false) (fun x_1653 => (Prod.rec (motive := fun _ => Bool) (fun k_1654 x_1655 => (Sum.rec (motive := fun _ => Bool) (fun x_1656 => false) (fun x_1657 => (Sum.rec (motive := fun _ => Bool) (fun m_1658 => (Bool.rec (motive := fun _ => Bool) false (Nat.beq m_1650 m_1658) (Nat.beq k_1640 k_1654))) (fun x_1659 => false) x_1657)) x_1655)) x_1653)) a)) (fun l_1651 => (Sum.rec (motive := fun _ => Bool) (fun x_1660 => false) (fun x_1661 => (Prod.rec (motive := fun _ => Bool) (fun k_1662 x_1663 => (Sum.rec (motive := fun _ => Bool) (fun x_1664 => false) (fun x_1665 => (Sum.rec (motive := fun _ => Bool) (fun x_1666 => false) (fun l_1667 => (Bool.rec (motive := fun _ => Bool) false (eqO l_1651 l_1667) (Nat.beq k_1640 k_1662))) x_1665)) x_1663)) x_1661)) a)) x_1643)) x_1641)) x_1633)) p)
theorem eqAC_def (p a : AC) : eqAC p a = (match p, a with
  | .inl (c, l), .inl (c', l') => bif Nat.beq c c' then eqAVs l l' else false
  | .inr (k, .inl s), .inr (k', .inl s') => bif Nat.beq k k' then eqSgs s s' else false
  | .inr (k, .inr (.inl m)), .inr (k', .inr (.inl m')) => bif Nat.beq k k' then Nat.beq m m' else false
  | .inr (k, .inr (.inr l)), .inr (k', .inr (.inr l')) => bif Nat.beq k k' then eqO l l' else false
  | _, _ => false) := by
  show (Sum.rec (motive := fun _ => Bool) (fun x_1632 => (Prod.rec (motive := fun _ => Bool) (fun c_1634 l_1635 => (Sum.rec (motive := fun _ => Bool) (fun x_1636 => (Prod.rec (motive := fun _ => Bool) (fun c_1638 l_1639 => (Bool.rec (motive := fun _ => Bool) false (eqAVs l_1635 l_1639) (Nat.beq c_1634 c_1638))) x_1636)) (fun x_1637 => false) a)) x_1632)) (fun x_1633 => (Prod.rec (motive := fun _ => Bool) (fun k_1640 x_1641 => (Sum.rec (motive := fun _ => Bool) (fun s_1642 => (Sum.rec (motive := fun _ => Bool) (fun x_1644 => false) (fun x_1645 => (Prod.rec (motive := fun _ => Bool) (fun k_1646 x_1647 => (Sum.rec (motive := fun _ => Bool) (fun s_1648 => (Bool.rec (motive := fun _ => Bool) false (eqSgs s_1642 s_1648) (Nat.beq k_1640 k_1646))) (fun x_1649 => false) x_1647)) x_1645)) a)) (fun x_1643 => (Sum.rec (motive := fun _ => Bool) (fun m_1650 => (Sum.rec (motive := fun _ => Bool) (fun x_1652 => false) (fun x_1653 => (Prod.rec (motive := fun _ => Bool) (fun k_1654 x_1655 => (Sum.rec (motive := fun _ => Bool) (fun x_1656 => false) (fun x_1657 => (Sum.rec (motive := fun _ => Bool) (fun m_1658 => (Bool.rec (motive := fun _ => Bool) false (Nat.beq m_1650 m_1658) (Nat.beq k_1640 k_1654))) (fun x_1659 => false) x_1657)) x_1655)) x_1653)) a)) (fun l_1651 => (Sum.rec (motive := fun _ => Bool) (fun x_1660 => false) (fun x_1661 => (Prod.rec (motive := fun _ => Bool) (fun k_1662 x_1663 => (Sum.rec (motive := fun _ => Bool) (fun x_1664 => false) (fun x_1665 => (Sum.rec (motive := fun _ => Bool) (fun x_1666 => false) (fun l_1667 => (Bool.rec (motive := fun _ => Bool) false (eqO l_1651 l_1667) (Nat.beq k_1640 k_1662))) x_1665)) x_1663)) x_1661)) a)) x_1643)) x_1641)) x_1633)) p) = _
  try simp only [iAddQ_eq, iMulQ_eq, iNegQ_eq, lenQ_eq, nthQ_eq, setQ_eq, appQ_eq, mapQ_eq, allQ_eq, anyQ_eq, dropQ_eq, takeQ_eq, revQ_eq, getDQ_eq, optLQ_eq, brecC]
  all_goals
    cases p with
    | inl y_1668 =>
      try dsimp only [cond_false, cond_true]
      all_goals
        cases y_1668 with
        | mk y_1669 y_1670 =>
          try dsimp only [cond_false, cond_true]
          all_goals
            cases a with
            | inl y_1671 =>
              try dsimp only [cond_false, cond_true]
              all_goals
                cases y_1671 with
                | mk y_1672 y_1673 =>
                  try dsimp only [cond_false, cond_true]
                  all_goals
                    cases hq_5 : (Nat.beq y_1669 y_1672) with
                    | false =>
                      try dsimp only [cond_false, cond_true]
                      all_goals rfl
                    | true =>
                      try dsimp only [cond_false, cond_true]
                      all_goals rfl
            | inr y_1674 =>
              try dsimp only [cond_false, cond_true]
              all_goals rfl
    | inr y_1675 =>
      try dsimp only [cond_false, cond_true]
      all_goals
        cases y_1675 with
        | mk y_1676 y_1677 =>
          try dsimp only [cond_false, cond_true]
          all_goals
            cases y_1677 with
            | inl y_1678 =>
              try dsimp only [cond_false, cond_true]
              all_goals
                cases a with
                | inl y_1679 =>
                  try dsimp only [cond_false, cond_true]
                  all_goals rfl
                | inr y_1680 =>
                  try dsimp only [cond_false, cond_true]
                  all_goals
                    cases y_1680 with
                    | mk y_1681 y_1682 =>
                      try dsimp only [cond_false, cond_true]
                      all_goals
                        cases y_1682 with
                        | inl y_1683 =>
                          try dsimp only [cond_false, cond_true]
                          all_goals
                            cases hq_11 : (Nat.beq y_1676 y_1681) with
                            | false =>
                              try dsimp only [cond_false, cond_true]
                              all_goals rfl
                            | true =>
                              try dsimp only [cond_false, cond_true]
                              all_goals rfl
                        | inr y_1684 =>
                          try dsimp only [cond_false, cond_true]
                          all_goals rfl
            | inr y_1685 =>
              try dsimp only [cond_false, cond_true]
              all_goals
                cases y_1685 with
                | inl y_1686 =>
                  try dsimp only [cond_false, cond_true]
                  all_goals
                    cases a with
                    | inl y_1687 =>
                      try dsimp only [cond_false, cond_true]
                      all_goals rfl
                    | inr y_1688 =>
                      try dsimp only [cond_false, cond_true]
                      all_goals
                        cases y_1688 with
                        | mk y_1689 y_1690 =>
                          try dsimp only [cond_false, cond_true]
                          all_goals
                            cases y_1690 with
                            | inl y_1691 =>
                              try dsimp only [cond_false, cond_true]
                              all_goals rfl
                            | inr y_1692 =>
                              try dsimp only [cond_false, cond_true]
                              all_goals
                                cases y_1692 with
                                | inl y_1693 =>
                                  try dsimp only [cond_false, cond_true]
                                  all_goals
                                    cases hq_17 : (Nat.beq y_1676 y_1689) with
                                    | false =>
                                      try dsimp only [cond_false, cond_true]
                                      all_goals rfl
                                    | true =>
                                      try dsimp only [cond_false, cond_true]
                                      all_goals rfl
                                | inr y_1694 =>
                                  try dsimp only [cond_false, cond_true]
                                  all_goals rfl
                | inr y_1695 =>
                  try dsimp only [cond_false, cond_true]
                  all_goals
                    cases a with
                    | inl y_1696 =>
                      try dsimp only [cond_false, cond_true]
                      all_goals rfl
                    | inr y_1697 =>
                      try dsimp only [cond_false, cond_true]
                      all_goals
                        cases y_1697 with
                        | mk y_1698 y_1699 =>
                          try dsimp only [cond_false, cond_true]
                          all_goals
                            cases y_1699 with
                            | inl y_1700 =>
                              try dsimp only [cond_false, cond_true]
                              all_goals rfl
                            | inr y_1701 =>
                              try dsimp only [cond_false, cond_true]
                              all_goals
                                cases y_1701 with
                                | inl y_1702 =>
                                  try dsimp only [cond_false, cond_true]
                                  all_goals rfl
                                | inr y_1703 =>
                                  try dsimp only [cond_false, cond_true]
                                  all_goals
                                    cases hq_22 : (Nat.beq y_1676 y_1698) with
                                    | false =>
                                      try dsimp only [cond_false, cond_true]
                                      all_goals rfl
                                    | true =>
                                      try dsimp only [cond_false, cond_true]
                                      all_goals rfl
/-- the same cell, of symbols that stay -/
noncomputable def qC (n : Nat) (p a : AC) : Bool :=
  (Bool.rec (motive := fun _ => Bool) false (scC n p) (eqAC p a))
theorem qC_def (n : Nat) (p a : AC) : qC n p a = bif eqAC p a then scC n p else false := by
  show (Bool.rec (motive := fun _ => Bool) false (scC n p) (eqAC p a)) = _
  try simp only [iAddQ_eq, iMulQ_eq, iNegQ_eq, lenQ_eq, nthQ_eq, setQ_eq, appQ_eq, mapQ_eq, allQ_eq, anyQ_eq, dropQ_eq, takeQ_eq, revQ_eq, getDQ_eq, optLQ_eq, brecC]
  all_goals
    cases hq_1 : (eqAC p a) with
    | false =>
      try dsimp only [cond_false, cond_true]
      all_goals rfl
    | true =>
      try dsimp only [cond_false, cond_true]
      all_goals rfl
noncomputable def uniHR (n : Nat) : Un → AH → AH → Un :=
  fun θ e_0 e_1 => List.rec (motive := fun _ => Un → AH → Un) (fun θ e_1 => θ) (fun h_0 t_0 ih θ e_1 => (List.rec (motive := fun _ => Un) θ (fun a_1704 q_1705 _ => (ih (Bool.rec (motive := fun _ => Un) (uniC θ h_0 a_1704) θ (qC n h_0 a_1704)) q_1705)) e_1)) e_0 θ e_1
theorem uniHR_def (n : Nat) (θ : Un) (e_0 : AH) (e_1 : AH) : uniHR n θ e_0 e_1 = (match e_0, e_1 with
  | p :: r, a :: q => uniHR n (bif qC n p a then θ else uniC θ p a) r q
  | _, _ => θ) := by
  cases e_0 with
  | nil =>
    show θ = _
    try simp only [iAddQ_eq, iMulQ_eq, iNegQ_eq, lenQ_eq, nthQ_eq, setQ_eq, appQ_eq, mapQ_eq, allQ_eq, anyQ_eq, dropQ_eq, takeQ_eq, revQ_eq, getDQ_eq, optLQ_eq, brecC]
    all_goals rfl
  | cons h_0 t_0 =>
    show (List.rec (motive := fun _ => Un) θ (fun a_1706 q_1707 _ => (uniHR n (Bool.rec (motive := fun _ => Un) (uniC θ h_0 a_1706) θ (qC n h_0 a_1706)) t_0 q_1707)) e_1) = _
    try simp only [iAddQ_eq, iMulQ_eq, iNegQ_eq, lenQ_eq, nthQ_eq, setQ_eq, appQ_eq, mapQ_eq, allQ_eq, anyQ_eq, dropQ_eq, takeQ_eq, revQ_eq, getDQ_eq, optLQ_eq, brecC]
    all_goals
      cases e_1 with
      | nil =>
        try dsimp only [cond_false, cond_true]
        all_goals rfl
      | cons y_1708 y_1709 =>
        try dsimp only [cond_false, cond_true]
        all_goals rfl
noncomputable def chkHR (n : Nat) (tab : Tb) (fs : List Ln) (θ : Th) : AH → AH → Bool :=
  fun e_0 e_1 => List.rec (motive := fun _ => AH → Bool) (fun e_1 => (List.rec (motive := fun _ => Bool) true (fun x_1710 x_1711 _ => false) e_1)) (fun h_0 t_0 ih e_1 => (List.rec (motive := fun _ => Bool) false (fun a_1712 q_1713 _ => (Bool.rec (motive := fun _ => Bool) false (ih q_1713) (Bool.rec (motive := fun _ => Bool) (chkC tab fs θ h_0 a_1712) true (qC n h_0 a_1712)))) e_1)) e_0 e_1
theorem chkHR_def (n : Nat) (tab : Tb) (fs : List Ln) (θ : Th) (e_0 : AH) (e_1 : AH) : chkHR n tab fs θ e_0 e_1 = (match e_0, e_1 with
  | [], [] => true
  | p :: r, a :: q => bif (bif qC n p a then true else chkC tab fs θ p a) then chkHR n tab fs θ r q else false
  | _, _ => false) := by
  cases e_0 with
  | nil =>
    show (List.rec (motive := fun _ => Bool) true (fun x_1714 x_1715 _ => false) e_1) = _
    try simp only [iAddQ_eq, iMulQ_eq, iNegQ_eq, lenQ_eq, nthQ_eq, setQ_eq, appQ_eq, mapQ_eq, allQ_eq, anyQ_eq, dropQ_eq, takeQ_eq, revQ_eq, getDQ_eq, optLQ_eq, brecC]
    all_goals
      cases e_1 with
      | nil =>
        try dsimp only [cond_false, cond_true]
        all_goals rfl
      | cons y_1716 y_1717 =>
        try dsimp only [cond_false, cond_true]
        all_goals rfl
  | cons h_0 t_0 =>
    show (List.rec (motive := fun _ => Bool) false (fun a_1718 q_1719 _ => (Bool.rec (motive := fun _ => Bool) false (chkHR n tab fs θ t_0 q_1719) (Bool.rec (motive := fun _ => Bool) (chkC tab fs θ h_0 a_1718) true (qC n h_0 a_1718)))) e_1) = _
    try simp only [iAddQ_eq, iMulQ_eq, iNegQ_eq, lenQ_eq, nthQ_eq, setQ_eq, appQ_eq, mapQ_eq, allQ_eq, anyQ_eq, dropQ_eq, takeQ_eq, revQ_eq, getDQ_eq, optLQ_eq, brecC]
    all_goals
      cases e_1 with
      | nil =>
        try dsimp only [cond_false, cond_true]
        all_goals rfl
      | cons y_1720 y_1721 =>
        try dsimp only [cond_false, cond_true]
        all_goals
          cases hq_3 : ((bif (qC n h_0 y_1720) then true else (chkC tab fs θ h_0 y_1720))) with
          | false =>
            try dsimp only [cond_false, cond_true]
            all_goals rfl
          | true =>
            try dsimp only [cond_false, cond_true]
            all_goals rfl
noncomputable def isSy  : Nat → Nat → List Ln → Bool :=
  fun e_0 e_1 e_2 => Nat.rec (motive := fun _ => Nat → List Ln → Bool) (fun e_1 e_2 => (List.rec (motive := fun _ => Bool) true (fun x_1722 x_1723 _ => false) e_2)) (fun t_0 ih e_1 e_2 => (List.rec (motive := fun _ => Bool) false (fun e_1724 r_1725 _ => (Bool.rec (motive := fun _ => Bool) false (ih (Nat.succ e_1) r_1725) (Bool.rec (motive := fun _ => Bool) false (Nat.beq (fstS e_1724) e_1) (isS1 e_1724)))) e_2)) e_0 e_1 e_2
theorem isSy_def  (e_0 : Nat) (e_1 : Nat) (e_2 : List Ln) : isSy  e_0 e_1 e_2 = (match e_0, e_1, e_2 with
  | 0, _, [] => true
  | n + 1, i, e :: r => bif (bif isS1 e then Nat.beq (fstS e) i else false) then isSy n (Nat.succ i) r else false
  | _, _, _ => false) := by
  cases e_0 with
  | zero =>
    show (List.rec (motive := fun _ => Bool) true (fun x_1726 x_1727 _ => false) e_2) = _
    try simp only [iAddQ_eq, iMulQ_eq, iNegQ_eq, lenQ_eq, nthQ_eq, setQ_eq, appQ_eq, mapQ_eq, allQ_eq, anyQ_eq, dropQ_eq, takeQ_eq, revQ_eq, getDQ_eq, optLQ_eq, brecC]
    all_goals
      cases e_2 with
      | nil =>
        try dsimp only [cond_false, cond_true]
        all_goals rfl
      | cons y_1728 y_1729 =>
        try dsimp only [cond_false, cond_true]
        all_goals rfl
  | succ t_0 =>
    show (List.rec (motive := fun _ => Bool) false (fun e_1730 r_1731 _ => (Bool.rec (motive := fun _ => Bool) false (isSy t_0 (Nat.succ e_1) r_1731) (Bool.rec (motive := fun _ => Bool) false (Nat.beq (fstS e_1730) e_1) (isS1 e_1730)))) e_2) = _
    try simp only [iAddQ_eq, iMulQ_eq, iNegQ_eq, lenQ_eq, nthQ_eq, setQ_eq, appQ_eq, mapQ_eq, allQ_eq, anyQ_eq, dropQ_eq, takeQ_eq, revQ_eq, getDQ_eq, optLQ_eq, brecC]
    all_goals
      cases e_2 with
      | nil =>
        try dsimp only [cond_false, cond_true]
        all_goals rfl
      | cons y_1732 y_1733 =>
        try dsimp only [cond_false, cond_true]
        all_goals
          cases hq_3 : ((bif (isS1 y_1732) then (Nat.beq ((fstS y_1732)) e_1) else false)) with
          | false =>
            try dsimp only [cond_false, cond_true]
            all_goals rfl
          | true =>
            try dsimp only [cond_false, cond_true]
            all_goals rfl
noncomputable def rigF (n : Nat) (f : Th) (s : Nat) : Ln :=
  (Bool.rec (motive := fun _ => Ln) (f s) (sL s) (Nat.blt s n))
theorem rigF_def (n : Nat) (f : Th) (s : Nat) : rigF n f s = bif Nat.blt s n then sL s else f s := by
  show (Bool.rec (motive := fun _ => Ln) (f s) (sL s) (Nat.blt s n)) = _
  try simp only [iAddQ_eq, iMulQ_eq, iNegQ_eq, lenQ_eq, nthQ_eq, setQ_eq, appQ_eq, mapQ_eq, allQ_eq, anyQ_eq, dropQ_eq, takeQ_eq, revQ_eq, getDQ_eq, optLQ_eq, brecC]
  all_goals
    cases hq_1 : (Nat.blt s n) with
    | false =>
      try dsimp only [cond_false, cond_true]
      all_goals rfl
    | true =>
      try dsimp only [cond_false, cond_true]
      all_goals rfl
noncomputable def unR (n : Nat) : Un :=
  ((Nat.sub (Nat.shiftLeft (nat_lit 1) n) (nat_lit 1)), [])
theorem unR_def (n : Nat) : unR n = (Nat.sub (Nat.shiftLeft 1 n) 1, []) := by
  show ((Nat.sub (Nat.shiftLeft (nat_lit 1) n) (nat_lit 1)), []) = _
  all_goals rfl
noncomputable def withR (n : Nat) (θ : Un) (k : Th → Bool) : Bool :=
  (Prod.rec (motive := fun _ => Bool) (fun x_1734 x_1735 => (Prod.rec (motive := fun _ => Bool) (fun f_1736 x_1737 => (k (rigF n f_1736))) x_1735)) (balF (nat_lit 9) θ.2))
theorem withR_def (n : Nat) (θ : Un) (k : Th → Bool) : withR n θ k = (match balF 9 θ.2 with
  | (_, f, _) => k (rigF n f)) := by
  show (Prod.rec (motive := fun _ => Bool) (fun x_1734 x_1735 => (Prod.rec (motive := fun _ => Bool) (fun f_1736 x_1737 => (k (rigF n f_1736))) x_1735)) (balF (nat_lit 9) θ.2)) = _
  all_goals
    cases hq_1 : (balF 9 θ.2) with
    | mk y_1738 y_1739 =>
      try dsimp only [cond_false, cond_true]
      all_goals
        cases y_1739 with
        | mk y_1740 y_1741 =>
          try dsimp only [cond_false, cond_true]
          all_goals rfl
noncomputable def instPR (n : Nat) (tab : Tb) (fs : List Ln) (θ : Th) (P : Pt) (vs : List AV) (A : AH) (pr : List PD) : Bool :=
  (Bool.rec (motive := fun _ => Bool) false (Bool.rec (motive := fun _ => Bool) false (Bool.rec (motive := fun _ => Bool) false (Bool.rec (motive := fun _ => Bool) false (chkP tab fs θ pr P.2.2.2.2.2) (chkF tab fs θ P.2.2.1)) (chkT tab fs θ P.2.1)) (chkHR n tab fs θ P.2.2.2.2.1 A)) (chkVs tab fs θ P.2.2.2.1 vs))
theorem instPR_def (n : Nat) (tab : Tb) (fs : List Ln) (θ : Th) (P : Pt) (vs : List AV) (A : AH) (pr : List PD) : instPR n tab fs θ P vs A pr = bif chkVs tab fs θ P.2.2.2.1 vs then (bif chkHR n tab fs θ P.2.2.2.2.1 A then (bif chkT tab fs θ P.2.1 then (bif chkF tab fs θ P.2.2.1 then chkP tab fs θ pr P.2.2.2.2.2 else false) else false) else false) else false := by
  show (Bool.rec (motive := fun _ => Bool) false (Bool.rec (motive := fun _ => Bool) false (Bool.rec (motive := fun _ => Bool) false (Bool.rec (motive := fun _ => Bool) false (chkP tab fs θ pr P.2.2.2.2.2) (chkF tab fs θ P.2.2.1)) (chkT tab fs θ P.2.1)) (chkHR n tab fs θ P.2.2.2.2.1 A)) (chkVs tab fs θ P.2.2.2.1 vs)) = _
  try simp only [iAddQ_eq, iMulQ_eq, iNegQ_eq, lenQ_eq, nthQ_eq, setQ_eq, appQ_eq, mapQ_eq, allQ_eq, anyQ_eq, dropQ_eq, takeQ_eq, revQ_eq, getDQ_eq, optLQ_eq, brecC]
  all_goals
    cases hq_1 : (chkVs tab fs θ P.2.2.2.1 vs) with
    | false =>
      try dsimp only [cond_false, cond_true]
      all_goals rfl
    | true =>
      try dsimp only [cond_false, cond_true]
      all_goals
        cases hq_2 : (chkHR n tab fs θ P.2.2.2.2.1 A) with
        | false =>
          try dsimp only [cond_false, cond_true]
          all_goals rfl
        | true =>
          try dsimp only [cond_false, cond_true]
          all_goals
            cases hq_3 : (chkT tab fs θ P.2.1) with
            | false =>
              try dsimp only [cond_false, cond_true]
              all_goals rfl
            | true =>
              try dsimp only [cond_false, cond_true]
              all_goals
                cases hq_4 : (chkF tab fs θ P.2.2.1) with
                | false =>
                  try dsimp only [cond_false, cond_true]
                  all_goals rfl
                | true =>
                  try dsimp only [cond_false, cond_true]
                  all_goals rfl
noncomputable def instP (tab : Tb) (fs : List Ln) (θ : Th) (P : Pt) (vs : List AV) (A : AH) (pr : List PD) : Bool :=
  (Bool.rec (motive := fun _ => Bool) false (Bool.rec (motive := fun _ => Bool) false (Bool.rec (motive := fun _ => Bool) false (Bool.rec (motive := fun _ => Bool) false (chkP tab fs θ pr P.2.2.2.2.2) (chkF tab fs θ P.2.2.1)) (chkT tab fs θ P.2.1)) (chkH tab fs θ P.2.2.2.2.1 A)) (chkVs tab fs θ P.2.2.2.1 vs))
theorem instP_def (tab : Tb) (fs : List Ln) (θ : Th) (P : Pt) (vs : List AV) (A : AH) (pr : List PD) : instP tab fs θ P vs A pr = bif chkVs tab fs θ P.2.2.2.1 vs then (bif chkH tab fs θ P.2.2.2.2.1 A then (bif chkT tab fs θ P.2.1 then (bif chkF tab fs θ P.2.2.1 then chkP tab fs θ pr P.2.2.2.2.2 else false) else false) else false) else false := by
  show (Bool.rec (motive := fun _ => Bool) false (Bool.rec (motive := fun _ => Bool) false (Bool.rec (motive := fun _ => Bool) false (Bool.rec (motive := fun _ => Bool) false (chkP tab fs θ pr P.2.2.2.2.2) (chkF tab fs θ P.2.2.1)) (chkT tab fs θ P.2.1)) (chkH tab fs θ P.2.2.2.2.1 A)) (chkVs tab fs θ P.2.2.2.1 vs)) = _
  try simp only [iAddQ_eq, iMulQ_eq, iNegQ_eq, lenQ_eq, nthQ_eq, setQ_eq, appQ_eq, mapQ_eq, allQ_eq, anyQ_eq, dropQ_eq, takeQ_eq, revQ_eq, getDQ_eq, optLQ_eq, brecC]
  all_goals
    cases hq_1 : (chkVs tab fs θ P.2.2.2.1 vs) with
    | false =>
      try dsimp only [cond_false, cond_true]
      all_goals rfl
    | true =>
      try dsimp only [cond_false, cond_true]
      all_goals
        cases hq_2 : (chkH tab fs θ P.2.2.2.2.1 A) with
        | false =>
          try dsimp only [cond_false, cond_true]
          all_goals rfl
        | true =>
          try dsimp only [cond_false, cond_true]
          all_goals
            cases hq_3 : (chkT tab fs θ P.2.1) with
            | false =>
              try dsimp only [cond_false, cond_true]
              all_goals rfl
            | true =>
              try dsimp only [cond_false, cond_true]
              all_goals
                cases hq_4 : (chkF tab fs θ P.2.2.1) with
                | false =>
                  try dsimp only [cond_false, cond_true]
                  all_goals rfl
                | true =>
                  try dsimp only [cond_false, cond_true]
                  all_goals rfl
noncomputable def thOf (tab : Tb) (fs : List Ln) (P : Pt) (vs : List AV) (A : AH) (pr : List PD) : Un :=
  (uniP tab fs pr (uniH (uniVs un0 P.2.2.2.1 vs) P.2.2.2.2.1 A) P.2.2.2.2.2)
theorem thOf_def (tab : Tb) (fs : List Ln) (P : Pt) (vs : List AV) (A : AH) (pr : List PD) : thOf tab fs P vs A pr = uniP tab fs pr (uniH (uniVs un0 P.2.2.2.1 vs) P.2.2.2.2.1 A) P.2.2.2.2.2 := by
  show (uniP tab fs pr (uniH (uniVs un0 P.2.2.2.1 vs) P.2.2.2.2.1 A) P.2.2.2.2.2) = _
  all_goals rfl
section PAT
variable {ρ : Nat → Int} {tab : Tb} {fs : List Ln} {θ : Th}
noncomputable abbrev thE (ρ : Nat → Int) (θ : Th) : Nat → Int := fun s => ev ρ (θ s)
theorem eqLθ (ht : tOk ρ tab) (hf : fOk ρ fs) {e e' : Ln} (h : eqL tab fs (sbL θ e) e' = true) : ev (thE ρ θ) e = ev ρ e' := by
  rw [← eqL_ok ht hf h, ev_sb]
theorem chkV_ok (ht : tOk ρ tab) (hf : fOk ρ fs) {v : Value} {p a : AV} (ha : vrel ρ v a) (h : chkV tab fs θ p a = true) : vrel (thE ρ θ) v p := by
  rw [chkV_def] at h
  split at h
  · rename_i b e b' e'
    cases hb : lnB b b' with
    | false => rw [hb] at h; cases h
    | true =>
      rw [hb] at h
      have := lnB_eq hb
      subst this
      cases b with
      | false => obtain ⟨x, e1, e2⟩ := ha; exact ⟨x, e1, e2.trans (eqLθ ht hf h).symm⟩
      | true => obtain ⟨x, e1, e2⟩ := ha; exact ⟨x, e1, e2.trans (eqLθ ht hf h).symm⟩
  · rename_i i j
    have := Nat.eq_of_beq_eq_true h
    subst this
    exact ha
  · exact ha
  · cases h
theorem chkVs_ok (ht : tOk ρ tab) (hf : fOk ρ fs) {vs : List Value} {ps as : List AV} (ha : rel2 (vrel ρ) vs as) (h : chkVs tab fs θ ps as = true) : rel2 (vrel (thE ρ θ)) vs ps := by
  induction ps generalizing vs as with
  | nil =>
    cases as with
    | nil => rw [rel2_nil ha]; exact trivial
    | cons a r => cases h
  | cons p r ih =>
    cases as with
    | nil => cases h
    | cons a q =>
      rw [chkVs_def] at h
      try dsimp only at h
      cases hc : chkV tab fs θ p a with
      | false => rw [hc] at h; cases h
      | true =>
        rw [hc] at h
        obtain ⟨v, vs', e, h1, h2⟩ := rel2_cons ha
        subst e
        exact ⟨chkV_ok ht hf h1 hc, ih h2 h⟩
theorem srel_zero {ρ : Nat → Int} {lo hi : Int} {r : List Sg} {l : List Int32} (h : srel ρ r l) : srel ρ (.inr (0, lo, hi) :: r) l := ⟨[], l, rfl, rfl, fun x hx => (by cases hx), h⟩
theorem srel_zero' {ρ : Nat → Int} {lo hi : Int} {r : List Sg} {l : List Int32} (h : srel ρ (.inr (0, lo, hi) :: r) l) : srel ρ r l := by
  obtain ⟨l1, l2, e1, e2, e3, e4⟩ := h
  have := List.length_eq_zero_iff.mp e2
  subst this
  subst e1
  exact e4
theorem srel_split {ρ : Nat → Int} {m k : Nat} {lo hi : Int} {r : List Sg} {l : List Int32} (h : srel ρ (.inr (m + k, lo, hi) :: r) l) : ∃ l1 l2, l = l1 ++ l2 ∧ l1.length = m ∧ (∀ x ∈ l1, lo ≤ x.toInt ∧ x.toInt ≤ hi) ∧ srel ρ (.inr (k, lo, hi) :: r) l2 := by
  obtain ⟨l1, l2, e1, e2, e3, e4⟩ := h
  subst e1
  refine ⟨l1.take m, l1.drop m ++ l2, by rw [← List.append_assoc, List.take_append_drop], by rw [List.length_take]; omega, fun x hx => e3 x (List.mem_of_mem_take hx), l1.drop m, l2, rfl, by rw [List.length_drop]; omega, fun x hx => e3 x (List.mem_of_mem_drop hx), e4⟩
theorem srel_join {ρ : Nat → Int} {m k : Nat} {lo hi : Int} {r : List Sg} {l1 l2 : List Int32} (h1 : l1.length = m) (h2 : ∀ x ∈ l1, lo ≤ x.toInt ∧ x.toInt ≤ hi) (h : srel ρ (.inr (k, lo, hi) :: r) l2) : srel ρ (.inr (m + k, lo, hi) :: r) (l1 ++ l2) := by
  obtain ⟨l3, l4, e1, e2, e3, e4⟩ := h
  subst e1
  refine ⟨l1 ++ l3, l4, by rw [List.append_assoc], by rw [List.length_append]; omega, fun x hx => ?_, e4⟩
  rcases List.mem_append.mp hx with q | q
  · exact h2 x q
  · exact e3 x q
theorem sgLe_ok (ht : tOk ρ tab) (hf : fOk ρ fs) : ∀ (n : Nat) (p a : List Sg) (l : List Int32), sgLe tab fs θ n p a = true → srel ρ a l → srel (thE ρ θ) p l := by
  intro n
  induction n with
  | zero => intro p a l h; cases h
  | succ n ih =>
    intro p a l h hl
    rw [sgLe_def] at h
    try dsimp only at h
    split at h
    · exact hl
    · rename_i e r e' q
      cases hc : eqL tab fs (sbL θ e) e' with
      | false => rw [hc] at h; cases h
      | true =>
        rw [hc] at h
        obtain ⟨x, l', e1, e2, h3⟩ := hl
        exact ⟨x, l', e1, e2.trans (eqLθ ht hf hc).symm, ih _ _ _ h h3⟩
    · rename_i e r m lo hi q
      split at h
      · exact ih _ _ _ h (srel_zero' hl)
      · rename_i m
        cases hc : eqI lo hi with
        | false => rw [hc] at h; cases h
        | true =>
          rw [hc] at h
          cases hd : eqL tab fs (sbL θ e) (kL lo) with
          | false => rw [hd] at h; cases h
          | true =>
            rw [hd] at h
            have := eqI_eq hc
            subst this
            rw [show Nat.succ m = 1 + m by omega] at hl
            obtain ⟨l1, l2, e1, e2, e3, e4⟩ := srel_split hl
            match l1, e2 with
            | [x], _ =>
              have e5 := e3 x List.mem_cons_self
              exact ⟨x, l2, e1, by rw [eqLθ ht hf hd, ev_k]; omega, ih _ _ _ h e4⟩
    · rename_i m lo hi r
      cases hc : Nat.beq m 0 with
      | false => rw [hc] at h; cases h
      | true =>
        rw [hc] at h
        have := Nat.eq_of_beq_eq_true hc
        subst this
        exact srel_zero (ih _ _ _ h hl)
    · rename_i m lo hi q
      cases hc : Nat.beq m 0 with
      | false => rw [hc] at h; cases h
      | true =>
        rw [hc] at h
        have := Nat.eq_of_beq_eq_true hc
        subst this
        exact ih _ _ _ h (srel_zero' hl)
    · rename_i m lo hi r e' q
      split at h
      · exact srel_zero (ih _ _ _ h hl)
      · rename_i m
        cases hc : inF tab fs lo hi e' with
        | false => rw [hc] at h; cases h
        | true =>
          rw [hc] at h
          obtain ⟨x, l', e1, e2, h3⟩ := hl
          have e5 := inF_ok ht hf hc
          subst e1
          rw [show Nat.succ m = 1 + m by omega]
          exact srel_join (l1 := [x]) rfl (fun y hy => by rw [List.mem_singleton.mp hy, e2]; exact e5) (ih _ _ _ h h3)
    · rename_i m lo hi r m' lo' hi' q
      cases hc : (bif Nat.beq m' 0 then true else bif Nat.beq m 0 then true else bif leI lo lo' then leI hi' hi else false) with
      | false => rw [hc] at h; cases h
      | true =>
        rw [hc] at h
        have fit : ∀ (k : Nat) (l1 : List Int32), l1.length = k → k ≤ m → k ≤ m' → (∀ x ∈ l1, lo' ≤ x.toInt ∧ x.toInt ≤ hi') → ∀ x ∈ l1, lo ≤ x.toInt ∧ x.toInt ≤ hi := by
          intro k l1 hk h1 h2 hx x hxm
          have hpos : 0 < l1.length := List.length_pos_of_mem hxm
          cases z1 : Nat.beq m' 0 with
          | true => have := Nat.eq_of_beq_eq_true z1; omega
          | false =>
            cases z2 : Nat.beq m 0 with
            | true => have := Nat.eq_of_beq_eq_true z2; omega
            | false =>
              rw [z1, z2] at hc
              simp only [cond_false] at hc
              cases z3 : leI lo lo' with
              | false => rw [z3] at hc; cases hc
              | true =>
                rw [z3] at hc
                have q1 := leI_le z3
                have q2 := leI_le hc
                have q3 := hx x hxm
                omega
        simp only [cond_true] at h
        cases hd : Nat.ble m m' with
        | true =>
          rw [hd] at h
          have hle := Nat.le_of_ble_eq_true hd
          simp only [cond_true] at h
          cases he : Nat.beq m m' with
          | true =>
            rw [he] at h
            have := Nat.eq_of_beq_eq_true he
            subst this
            obtain ⟨l1, l2, e1, e2, e3, e4⟩ := hl
            exact ⟨l1, l2, e1, e2, fit m l1 e2 (Nat.le_refl _) (Nat.le_refl _) e3, ih _ _ _ h e4⟩
          | false =>
            rw [he] at h
            have e0 : m' = m + Nat.sub m' m := by show m' = m + (m' - m); omega
            rw [e0] at hl
            obtain ⟨l1, l2, e1, e2, e3, e4⟩ := srel_split hl
            exact ⟨l1, l2, e1, e2, fit m l1 e2 (Nat.le_refl _) hle e3, ih _ _ _ h e4⟩
        | false =>
          rw [hd] at h
          have hlt : m' < m := Nat.lt_of_not_le fun q => by rw [Nat.ble_eq_true_of_le q] at hd; cases hd
          obtain ⟨l1, l2, e1, e2, e3, e4⟩ := hl
          subst e1
          have e0 : m = m' + Nat.sub m m' := by show m = m' + (m - m'); omega
          rw [e0]
          exact srel_join e2 (fit m' l1 e2 (by omega) (Nat.le_refl _) e3) (ih _ _ _ h e4)
    · cases h
theorem eqO_eq {a b : List (Option Nat)} (h : eqO a b = true) : a = b := by
  induction a generalizing b with
  | nil => cases b with
    | nil => rfl
    | cons q r => cases h
  | cons p r ih => cases b with
    | nil => cases p <;> cases h
    | cons q r' =>
      cases p with
      | none => cases q with
        | none => rw [ih h]
        | some j => cases h
      | some i => cases q with
        | none => cases h
        | some j =>
          rw [eqO_def] at h
          try dsimp only at h
          cases h1 : Nat.beq i j with
          | false => rw [h1] at h; cases h
          | true => rw [h1] at h; rw [Nat.eq_of_beq_eq_true h1, ih h]
theorem eqN_eq {a b : List Nat} (h : eqN a b = true) : a = b := by
  induction a generalizing b with
  | nil => cases b with
    | nil => rfl
    | cons q r => cases h
  | cons p r ih => cases b with
    | nil => cases h
    | cons q r' =>
      rw [eqN_def] at h
      try dsimp only at h
      cases h1 : Nat.beq p q with
      | false => rw [h1] at h; cases h
      | true => rw [h1] at h; rw [Nat.eq_of_beq_eq_true h1, ih h]
theorem chkC_ok (ht : tOk ρ tab) (hf : fOk ρ fs) {c : SC} {p a : AC} (ha : crel ρ c a) (h : chkC tab fs θ p a = true) : crel (thE ρ θ) c p := by
  rw [chkC_def] at h
  split at h
  · rename_i k l k' l'
    cases hb : Nat.beq k k' with
    | false => rw [hb] at h; cases h
    | true =>
      rw [hb] at h
      rw [Nat.eq_of_beq_eq_true hb]
      obtain ⟨f, e1, e2⟩ := ha
      exact ⟨f, e1, chkVs_ok ht hf e2 h⟩
  · rename_i k l k' l'
    cases hb : Nat.beq k k' with
    | false => rw [hb] at h; cases h
    | true =>
      rw [hb] at h
      have hkk := Nat.eq_of_beq_eq_true hb
      subst hkk
      have ha' : arel ρ k l' c := ha
      show arel (thE ρ θ) k l c
      unfold arel at ha' ⊢
      cases hk : Nat.blt k 100 with
      | true =>
        rw [hk] at h
        simp only [cond_true] at h
        rw [if_pos (blt_iff.mp hk)] at ha' ⊢
        obtain ⟨f, e1, e2⟩ := ha'
        exact ⟨f, e1, sgLe_ok ht hf _ _ _ _ h e2⟩
      | false =>
        rw [hk] at h
        have hn : ¬ k < 100 := Nat.not_lt.mpr (blt_f hk)
        rw [if_neg hn] at ha' ⊢
        obtain ⟨f, e1, e2⟩ := ha'
        refine ⟨f, e1, ?_⟩
        simp only [cond_true, cond_false] at h
        rw [conLe_def] at h
        split at h
        · exact Eq.trans e2 (eqLθ ht hf h).symm
        · cases h
  · rename_i k l k' l'
    cases hb : Nat.beq k k' with
    | false => rw [hb] at h; cases h
    | true =>
      rw [hb] at h
      rw [Nat.eq_of_beq_eq_true hb]
      obtain ⟨f, e1, e2⟩ := ha
      simp only [cond_true] at h
      cases hc : Nat.beq l l' with
      | true => exact ⟨f, e1, by rw [Nat.eq_of_beq_eq_true hc]; exact e2⟩
      | false =>
        rw [hc, cond_false] at h
        cases hd : Nat.blt l zB with
        | false => rw [hd] at h; cases h
        | true =>
          rw [hd, cond_true] at h
          have e3 : l' = Nat.add zB l := Nat.eq_of_beq_eq_true h
          have hd' := blt_iff.mp hd
          refine ⟨f, e1, ?_, fun h2 => by rw [hd] at h2; cases h2⟩
          rw [e2.1, e3, jLen_add hd', jLen_lt hd]
  · rename_i k l k' l'
    cases hb : Nat.beq k k' with
    | false => rw [hb] at h; cases h
    | true =>
      rw [hb] at h
      rw [Nat.eq_of_beq_eq_true hb, eqO_eq h]
      exact ha
  · cases h
theorem chkH_ok (ht : tOk ρ tab) (hf : fOk ρ fs) {σ : SH} {ps as : AH} (ha : rel2 (crel ρ) σ as) (h : chkH tab fs θ ps as = true) : rel2 (crel (thE ρ θ)) σ ps := by
  induction ps generalizing σ as with
  | nil =>
    cases as with
    | nil => rw [rel2_nil ha]; exact trivial
    | cons a r => cases h
  | cons p r ih =>
    cases as with
    | nil => cases h
    | cons a q =>
      rw [chkH_def] at h
      try dsimp only at h
      cases hc : chkC tab fs θ p a with
      | false => rw [hc] at h; cases h
      | true =>
        rw [hc] at h
        obtain ⟨v, vs', e, h1, h2⟩ := rel2_cons ha
        subst e
        exact ⟨chkC_ok ht hf h1 hc, ih h2 h⟩
theorem chkN_ok (ht : tOk ρ tab) (hf : fOk ρ fs) {ps as : List Ln} (h : chkN tab fs θ ps as = true) : ps.map (ev (thE ρ θ)) = as.map (ev ρ) := by
  induction ps generalizing as with
  | nil =>
    cases as with
    | nil => rfl
    | cons a r => cases h
  | cons p r ih =>
    cases as with
    | nil => cases h
    | cons a q =>
      rw [chkN_def] at h
      try dsimp only at h
      cases h1 : eqL tab fs (sbL θ p) a with
      | false => rw [h1] at h; cases h
      | true =>
        rw [h1] at h
        rw [List.map_cons, List.map_cons, ih h, eqLθ ht hf h1]
theorem hasP_mem (ht : tOk ρ tab) (hf : fOk ρ fs) {p : PD} {a : List PD} (h : hasP tab fs θ p a = true) : ∃ q ∈ a, p.1 = q.1 ∧ p.2.1 = q.2.1 ∧ p.2.2.map (ev (thE ρ θ)) = q.2.2.map (ev ρ) := by
  induction a with
  | nil => cases h
  | cons q r ih =>
    rw [hasP_def] at h
    try dsimp only at h
    cases h1 : (bif Nat.beq p.1 q.1 then (bif eqN p.2.1 q.2.1 then chkN tab fs θ p.2.2 q.2.2 else false) else false) with
    | false =>
      rw [h1] at h
      obtain ⟨q', q1, q2⟩ := ih h
      exact ⟨q', List.mem_cons_of_mem _ q1, q2⟩
    | true =>
      cases h2 : Nat.beq p.1 q.1 with
      | false => rw [h2] at h1; cases h1
      | true =>
        rw [h2] at h1
        cases h3 : eqN p.2.1 q.2.1 with
        | false => rw [h3] at h1; cases h1
        | true =>
          rw [h3] at h1
          exact ⟨q, List.mem_cons_self, Nat.eq_of_beq_eq_true h2, eqN_eq h3, chkN_ok ht hf h1⟩
theorem chkP_ok (ht : tOk ρ tab) (hf : fOk ρ fs) {a ps : List PD} (h : chkP tab fs θ a ps = true) : ∀ p ∈ ps, ∃ q ∈ a, p.1 = q.1 ∧ p.2.1 = q.2.1 ∧ p.2.2.map (ev (thE ρ θ)) = q.2.2.map (ev ρ) := by
  induction ps with
  | nil => intro p hp; cases hp
  | cons q r ih =>
    rw [chkP_def] at h
    try dsimp only at h
    cases h1 : hasP tab fs θ q a with
    | false => rw [h1] at h; cases h
    | true =>
      rw [h1] at h
      intro p hp
      rcases List.mem_cons.mp hp with rfl | hp
      · exact hasP_mem ht hf h1
      · exact ih h p hp
theorem chkT_ok (ht : tOk ρ tab) (hf : fOk ρ fs) {ps : TbL} (h : chkT tab fs θ ps = true) : tOkL (thE ρ θ) ps := by
  induction ps with
  | nil => intro p hp; cases hp
  | cons q r ih =>
    obtain ⟨s, lo, hi⟩ := q
    rw [chkT_def] at h
    try dsimp only at h
    cases h1 : inF tab fs lo hi (θ s) with
    | false => rw [h1] at h; cases h
    | true =>
      rw [h1] at h
      intro p hp
      rcases List.mem_cons.mp hp with rfl | hp
      · exact inF_ok ht hf h1
      · exact ih h p hp
theorem chkF_ok (ht : tOk ρ tab) (hf : fOk ρ fs) {ps : List Ln} (h : chkF tab fs θ ps = true) : fOk (thE ρ θ) ps := by
  induction ps with
  | nil => intro p hp; cases hp
  | cons q r ih =>
    rw [chkF_def] at h
    try dsimp only at h
    cases h1 : le0 tab fs (sbL θ q) with
    | false => rw [h1] at h; cases h
    | true =>
      rw [h1] at h
      intro p hp
      rcases List.mem_cons.mp hp with rfl | hp
      · have := le0_ok ht hf h1
        rw [ev_sb] at this
        exact this
      · exact ih h p hp
theorem instP_ok {PP : Nat → List (List Int32) → List Int → Prop} {P : Pt} {vs : List AV} {A : AH} {pr : List PD} {cvs : List Value} {σ : SH} (ht : tOk ρ tab) (hf : fOk ρ fs) (hv : rel2 (vrel ρ) cvs vs) (hA : rel2 (crel ρ) σ A) (hp : prOk PP ρ σ pr) (h : instP tab fs θ P vs A pr = true) : PtOk PP (thE ρ θ) P cvs σ := by
  rw [instP_def] at h
  cases h1 : chkVs tab fs θ P.2.2.2.1 vs with
  | false => rw [h1] at h; cases h
  | true =>
    rw [h1] at h
    cases h2 : chkH tab fs θ P.2.2.2.2.1 A with
    | false => rw [h2] at h; cases h
    | true =>
      rw [h2] at h
      cases h3 : chkT tab fs θ P.2.1 with
      | false => rw [h3] at h; cases h
      | true =>
        rw [h3] at h
        cases h4 : chkF tab fs θ P.2.2.1 with
        | false => rw [h4] at h; cases h
        | true =>
          rw [h4] at h
          exact ⟨chkT_ok ht hf h3, chkF_ok ht hf h4, chkVs_ok ht hf hv h1, chkH_ok ht hf hA h2, fun p hq => (by
            obtain ⟨q, q1, q2, q3, q4⟩ := chkP_ok ht hf h p hq
            rw [q2, q3, q4]
            exact hp q q1)⟩
end PAT
-- which symbols a pattern speaks of
noncomputable def scP (P : Pt) : Bool := P.2.1.all (fun q => Nat.blt q.1 P.1) && (P.2.2.1.all (scL P.1) && (P.2.2.2.1.all (scV P.1) && (P.2.2.2.2.1.all (scC P.1) && P.2.2.2.2.2.all (fun p => p.2.2.all (scL P.1)))))
section SC
variable {n : Nat} {ρ ρ' : Nat → Int}
theorem scV_ok (ha : agr2 n ρ ρ') {v : Value} {a : AV} (hs : scV n a = true) (h : vrel ρ v a) : vrel ρ' v a := by
  match a, h with
  | .inl (false, e), ⟨x, e1, e2⟩ => exact ⟨x, e1, e2.trans (scL_ev ha hs).symm⟩
  | .inl (true, e), ⟨x, e1, e2⟩ => exact ⟨x, e1, e2.trans (scL_ev ha hs).symm⟩
  | .inr (.inl (some i)), e1 => exact e1
  | .inr (.inl none), e1 => exact e1
  | .inr (.inr (p, q)), e1 =>
    have hs' : (bif scL n p then scL n q else false) = true := hs
    cases h1 : scL n p with
    | false => rw [h1] at hs'; cases hs'
    | true =>
      rw [h1] at hs'
      show v = .int (cmpZ (ev ρ' p) (ev ρ' q))
      rw [scL_ev ha h1, scL_ev ha hs']
      exact e1
theorem rel2_all {α β : Type} {R R' : α → β → Prop} {f : β → Bool} (hi : ∀ a b, f b = true → R a b → R' a b) {l : List α} {r : List β} (hr : r.all f = true) (h : rel2 R l r) : rel2 R' l r := by
  induction r generalizing l with
  | nil => rw [rel2_nil h]; exact trivial
  | cons b r ih =>
    obtain ⟨a, l', e, h1, h2⟩ := rel2_cons h
    subst e
    rw [List.all_cons, Bool.and_eq_true] at hr
    exact ⟨hi a b hr.1 h1, ih hr.2 h2⟩
theorem scS_ok (ha : agr2 n ρ ρ') {s : List Sg} {l : List Int32} (hs : s.all (scS n) = true) (h : srel ρ s l) : srel ρ' s l := by
  induction s generalizing l with
  | nil => exact h
  | cons q r ih =>
    rw [List.all_cons, Bool.and_eq_true] at hs
    match q, h, hs with
    | .inl e, ⟨x, l', e1, e2, h2⟩, hs => exact ⟨x, l', e1, e2.trans (scL_ev ha hs.1).symm, ih hs.2 h2⟩
    | .inr (m, lo, hi), ⟨l1, l2, e1, e2, e3, h2⟩, hs => exact ⟨l1, l2, e1, e2, e3, ih hs.2 h2⟩
theorem scC_ok (ha : agr2 n ρ ρ') {c : SC} {a : AC} (hs : scC n a = true) (h : crel ρ c a) : crel ρ' c a := by
  match a, h with
  | .inl (ci, as), ⟨fs, e, h'⟩ => exact ⟨fs, e, rel2_all (f := scV n) (R' := vrel ρ') (fun _ _ q r => scV_ok ha q r) hs h'⟩
  | .inr (k, .inl s), h =>
    have h' : arel ρ k s c := h
    show arel ρ' k s c
    unfold arel at h' ⊢
    split at h'
    · rename_i hk
      rw [if_pos hk]
      obtain ⟨l, e, h2⟩ := h'
      exact ⟨l, e, scS_ok ha hs h2⟩
    · rename_i hk
      rw [if_neg hk]
      obtain ⟨l, e, h2⟩ := h'
      refine ⟨l, e, ?_⟩
      match s, hs, h2 with
      | [.inl e], hs, h2 =>
        have hs' : ([Sum.inl e] : List Sg).all (scS n) = true := hs
        simp only [List.all_cons, List.all_nil, Bool.and_true] at hs'
        exact Eq.trans h2 (scL_ev ha hs').symm
  | .inr (k, .inr (.inl m)), ⟨l, e, h'⟩ => exact ⟨l, e, h'⟩
  | .inr (k, .inr (.inr q)), e => exact e
end SC
theorem prOk_agr {PP : Nat → List (List Int32) → List Int → Prop} {n : Nat} {ρ ρ' : Nat → Int} {σ : SH} {pr : List PD} (ha : agr2 n ρ ρ') (hs : pr.all (fun p => p.2.2.all (scL n)) = true) (h : prOk PP ρ σ pr) : prOk PP ρ' σ pr := fun p hp => by
  have e : p.2.2.map (ev ρ') = p.2.2.map (ev ρ) := List.map_congr_left fun e he => scL_ev ha (List.all_eq_true.mp (List.all_eq_true.mp hs p hp) e he)
  rw [e]
  exact h p hp
theorem PtOk_agr {PP : Nat → List (List Int32) → List Int → Prop} {P : Pt} {ρ ρ' : Nat → Int} {vs : List Value} {σ : SH} (hs : scP P = true) (ha : agr2 P.1 ρ ρ') (h : PtOk PP ρ P vs σ) : PtOk PP ρ' P vs σ := by
  unfold scP at hs
  simp only [Bool.and_eq_true] at hs
  obtain ⟨s1, s2, s3, s4, s5⟩ := hs
  obtain ⟨h1, h2, h3, h4, h5⟩ := h
  refine ⟨fun q hq => ?_, fun f hf => ?_, rel2_all (f := scV P.1) (R' := vrel ρ') (fun _ _ q r => scV_ok ha q r) s3 h3, rel2_all (f := scC P.1) (R' := crel ρ') (fun _ _ q r => scC_ok ha q r) s4 h4, prOk_agr ha s5 h5⟩
  · rw [ha q.1 (blt_iff.mp (List.all_eq_true.mp s1 q hq))]
    exact h1 q hq
  · rw [scL_ev ha (List.all_eq_true.mp s2 f hf)]
    exact h2 f hf
-- the same text: the same
theorem eqLn_eq {a b : Ln} (h : eqLn a b = true) : a = b := by
  rw [eqLn_def] at h
  obtain ⟨h1, h2⟩ := cand0 h
  obtain ⟨a1, a2⟩ := a
  obtain ⟨b1, b2⟩ := b
  have e1 : a1 = b1 := eqI_eq h1
  have e2 : a2 = b2 := eqT_eq h2
  rw [e1, e2]
theorem eqAV_eq {p a : AV} (h : eqAV p a = true) : p = a := by
  rw [eqAV_def] at h
  split at h
  · obtain ⟨h1, h2⟩ := cand0 h
    rw [lnB_eq h1, eqLn_eq h2]
  · rw [Nat.eq_of_beq_eq_true h]
  · rfl
  · cases h
theorem eqAVs_eq : ∀ {p a : List AV}, eqAVs p a = true → p = a := by
  intro p
  induction p with
  | nil => intro a h; cases a with
    | nil => rfl
    | cons x y => rw [eqAVs_def] at h; cases h
  | cons x r ih => intro a h; cases a with
    | nil => rw [eqAVs_def] at h; cases h
    | cons y q =>
      rw [eqAVs_def] at h
      obtain ⟨h1, h2⟩ := cand0 h
      rw [eqAV_eq h1, ih h2]
theorem eqSg_eq {p a : Sg} (h : eqSg p a = true) : p = a := by
  rw [eqSg_def] at h
  split at h
  · rw [eqLn_eq h]
  · obtain ⟨h1, h2⟩ := cand0 h
    obtain ⟨h3, h4⟩ := cand0 h2
    rw [Nat.eq_of_beq_eq_true h1, eqI_eq h3, eqI_eq h4]
  · cases h
theorem eqSgs_eq : ∀ {p a : List Sg}, eqSgs p a = true → p = a := by
  intro p
  induction p with
  | nil => intro a h; cases a with
    | nil => rfl
    | cons x y => rw [eqSgs_def] at h; cases h
  | cons x r ih => intro a h; cases a with
    | nil => rw [eqSgs_def] at h; cases h
    | cons y q =>
      rw [eqSgs_def] at h
      obtain ⟨h1, h2⟩ := cand0 h
      rw [eqSg_eq h1, ih h2]
theorem eqAC_eq {p a : AC} (h : eqAC p a = true) : p = a := by
  rw [eqAC_def] at h
  split at h
  · obtain ⟨h1, h2⟩ := cand0 h
    rw [Nat.eq_of_beq_eq_true h1, eqAVs_eq h2]
  · obtain ⟨h1, h2⟩ := cand0 h
    rw [Nat.eq_of_beq_eq_true h1, eqSgs_eq h2]
  · obtain ⟨h1, h2⟩ := cand0 h
    rw [Nat.eq_of_beq_eq_true h1, Nat.eq_of_beq_eq_true h2]
  · obtain ⟨h1, h2⟩ := cand0 h
    rw [Nat.eq_of_beq_eq_true h1, eqO_eq h2]
  · cases h
theorem rigF_lt {n : Nat} {f : Th} {s : Nat} (h : s < n) : rigF n f s = sL s := by
  rw [rigF_def]
  rw [blt_iff.mpr h]
  rfl
theorem rigF_agr {n : Nat} {f : Th} (ρ : Nat → Int) : agr2 n ρ (thE ρ (rigF n f)) := fun i hi => by
  show ev ρ (rigF n f i) = ρ i
  rw [rigF_lt hi, ev_s]
theorem withR_ok {n : Nat} {θ : Un} {k : Th → Bool} (h : withR n θ k = true) : ∃ f, k (rigF n f) = true := by
  rw [withR_def] at h
  split at h
  exact ⟨_, h⟩
theorem chkHR_ok {ρ : Nat → Int} {tab : Tb} {fs : List Ln} {n : Nat} {f : Th} (ht : tOk ρ tab) (hf : fOk ρ fs) {σ : SH} : ∀ {ps as : AH}, rel2 (crel ρ) σ as → chkHR n tab fs (rigF n f) ps as = true → rel2 (crel (thE ρ (rigF n f))) σ ps := by
  intro ps
  induction ps generalizing σ with
  | nil =>
    intro as ha h
    cases as with
    | nil => rw [rel2_nil ha]; exact trivial
    | cons a q => rw [chkHR_def] at h; cases h
  | cons p r ih =>
    intro as ha h
    cases as with
    | nil => rw [chkHR_def] at h; cases h
    | cons a q =>
      rw [chkHR_def] at h
      obtain ⟨h1, h2⟩ := cand0 h
      obtain ⟨c, σ', e, hc, hr⟩ := rel2_cons ha
      subst e
      refine ⟨?_, ih hr h2⟩
      cases hq : qC n p a with
      | false => rw [hq] at h1; exact chkC_ok ht hf hc h1
      | true =>
        rw [qC_def] at hq
        obtain ⟨q1, q2⟩ := cand0 hq
        have e := eqAC_eq q1
        subst e
        exact scC_ok (rigF_agr ρ) q2 hc
theorem instPR_ok {PP : Nat → List (List Int32) → List Int → Prop} {ρ : Nat → Int} {tab : Tb} {fs : List Ln} {n : Nat} {f : Th} {P : Pt} {vs : List AV} {A : AH} {pr : List PD} {cvs : List Value} {σ : SH} (ht : tOk ρ tab) (hf : fOk ρ fs) (hv : rel2 (vrel ρ) cvs vs) (hA : rel2 (crel ρ) σ A) (hp : prOk PP ρ σ pr) (h : instPR n tab fs (rigF n f) P vs A pr = true) : PtOk PP (thE ρ (rigF n f)) P cvs σ := by
  rw [instPR_def] at h
  obtain ⟨h1, h⟩ := cand0 h
  obtain ⟨h2, h⟩ := cand0 h
  obtain ⟨h3, h⟩ := cand0 h
  obtain ⟨h4, h5⟩ := cand0 h
  refine ⟨chkT_ok ht hf h3, chkF_ok ht hf h4, chkVs_ok ht hf hv h1, chkHR_ok ht hf hA h2, fun p hp' => ?_⟩
  obtain ⟨q, q1, q2, q3, q4⟩ := chkP_ok ht hf h5 p hp'
  rw [q2, q3, q4]
  exact hp q q1
theorem isS1_eq {e : Ln} (h : isS1 e = true) : e = sL (fstS e) := by
  obtain ⟨c, ts⟩ := e
  rw [isS1_def] at h
  try dsimp only at h
  split at h
  · rename_i s k
    obtain ⟨h1, h2⟩ := cand0 h
    have e1 := isZ_eq h1
    have e2 := eqI_eq h2
    subst e1
    subst e2
    rfl
  · cases h
theorem isSy_map {ρ : Nat → Int} {f : Th} {N : Nat} : ∀ (n i : Nat) (G : List Ln), i + n ≤ N → isSy n i G = true → G.map (ev (thE ρ (rigF N f))) = G.map (ev ρ) := by
  intro n
  induction n with
  | zero =>
    intro i G hN h
    cases G with
    | nil => rfl
    | cons e r => rw [isSy_def] at h; cases h
  | succ n ih =>
    intro i G hN h
    cases G with
    | nil => rw [isSy_def] at h; cases h
    | cons e r =>
      rw [isSy_def] at h
      obtain ⟨h1, h2⟩ := cand0 h
      obtain ⟨h3, h4⟩ := cand0 h1
      rw [List.map_cons, List.map_cons, ih (Nat.succ i) r (by omega) h2]
      have e1 := isS1_eq h3
      have e2 := Nat.eq_of_beq_eq_true h4
      rw [e1, ev_s, ev_s, e2]
      congr 1
      show ev ρ (rigF N f i) = ρ i
      rw [rigF_lt (by omega), ev_s]
theorem isSy_len : ∀ {n i : Nat} {G G' : List Ln}, isSy n i G = true → isSy n i G' = true → G = G' := by
  intro n
  induction n with
  | zero =>
    intro i G G' h h'
    cases G with
    | cons e r => rw [isSy_def] at h; cases h
    | nil => cases G' with
      | nil => rfl
      | cons e r => rw [isSy_def] at h'; cases h'
  | succ n ih =>
    intro i G G' h h'
    cases G with
    | nil => rw [isSy_def] at h; cases h
    | cons e r => cases G' with
      | nil => rw [isSy_def] at h'; cases h'
      | cons e' r' =>
        rw [isSy_def] at h h'
        obtain ⟨h1, h2⟩ := cand0 h
        obtain ⟨h3, h4⟩ := cand0 h1
        obtain ⟨h1', h2'⟩ := cand0 h'
        obtain ⟨h3', h4'⟩ := cand0 h1'
        rw [isS1_eq h3, isS1_eq h3', Nat.eq_of_beq_eq_true h4, Nat.eq_of_beq_eq_true h4', ih h2 h2']
