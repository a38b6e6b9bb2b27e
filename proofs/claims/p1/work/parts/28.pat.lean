/-! ===== patterns: what is known at a place, in symbols of its own ===== -/
abbrev Pt : Type := Nat × TbL × List Ln × List AV × AH × List PD
noncomputable def PtOk (PP : Nat → List (List Int32) → List Int → Prop) (ρ : Nat → Int) (P : Pt) (vs : List Value) (σ : SH) : Prop :=
  tOkL ρ P.2.1 ∧ fOk ρ P.2.2.1 ∧ rel2 (vrel ρ) vs P.2.2.2.1 ∧ rel2 (crel ρ) σ P.2.2.2.2.1 ∧ prOk PP ρ σ P.2.2.2.2.2
-- the symbols' meaning, found by looking (what is found is checked below)
abbrev Un : Type := Nat × List (Nat × Ln)
noncomputable def un0 : Un := (0, [])
noncomputable def thHas (s : Nat) (θ : Un) : Bool :=
  (Nat.beq (Nat.land (Nat.shiftRight θ.1 s) (nat_lit 1)) (nat_lit 1))
theorem thHas_def (s : Nat) (θ : Un) : thHas s θ = Nat.beq (Nat.land (Nat.shiftRight θ.1 s) 1) 1 := by
  show (Nat.beq (Nat.land (Nat.shiftRight θ.1 s) (nat_lit 1)) (nat_lit 1)) = _
  all_goals rfl
noncomputable def insU (s : Nat) (e : Ln) : List (Nat × Ln) → List (Nat × Ln) :=
  fun e_0 => List.rec (motive := fun _ => List (Nat × Ln)) [(s, e)] (fun h_0 t_0 ih => (Prod.rec (motive := fun _ => List (Nat × Ln)) (fun t_905 x_906 => (Bool.rec (motive := fun _ => List (Nat × Ln)) ((t_905, x_906) :: (ih)) ((s, e) :: ((t_905, x_906) :: t_0)) (Nat.ble t_905 s))) h_0)) e_0 
theorem insU_def (s : Nat) (e : Ln) (e_0 : List (Nat × Ln)) : insU s e e_0 = (match e_0 with
  | [] => [(s, e)]
  | (t, x) :: r => bif Nat.ble t s then (s, e) :: (t, x) :: r else (t, x) :: insU s e r) := by
  cases e_0 with
  | nil =>
    show [(s, e)] = _
    try simp only [iAddQ_eq, iMulQ_eq, iNegQ_eq, lenQ_eq, nthQ_eq, setQ_eq, appQ_eq, mapQ_eq, allQ_eq, anyQ_eq, dropQ_eq, takeQ_eq, revQ_eq, getDQ_eq, optLQ_eq, brecC]
    all_goals rfl
  | cons h_0 t_0 =>
    show (Prod.rec (motive := fun _ => List (Nat × Ln)) (fun t_907 x_908 => (Bool.rec (motive := fun _ => List (Nat × Ln)) ((t_907, x_908) :: (insU s e t_0)) ((s, e) :: ((t_907, x_908) :: t_0)) (Nat.ble t_907 s))) h_0) = _
    try simp only [iAddQ_eq, iMulQ_eq, iNegQ_eq, lenQ_eq, nthQ_eq, setQ_eq, appQ_eq, mapQ_eq, allQ_eq, anyQ_eq, dropQ_eq, takeQ_eq, revQ_eq, getDQ_eq, optLQ_eq, brecC]
    all_goals
      cases h_0 with
      | mk y_909 y_910 =>
        try dsimp only [cond_false, cond_true]
        all_goals
          cases hq_2 : (Nat.ble y_909 s) with
          | false =>
            try dsimp only [cond_false, cond_true]
            all_goals rfl
          | true =>
            try dsimp only [cond_false, cond_true]
            all_goals rfl
noncomputable def uniL (θ : Un) (p a : Ln) : Un :=
  (List.rec (motive := fun _ => Un) θ (fun x_911 x_912 _ => (Prod.rec (motive := fun _ => Un) (fun s_913 k_914 => (List.rec (motive := fun _ => Un) (Bool.rec (motive := fun _ => Un) (Bool.rec (motive := fun _ => Un) θ ((Nat.lor θ.1 (Nat.shiftLeft (nat_lit 1) s_913)), (insU s_913 (Bool.rec (motive := fun _ => _) (pluL a (iNegQ p.1)) a (isZ p.1)) θ.2)) (eqI k_914 (.ofNat (nat_lit 1)))) θ (thHas s_913 θ)) (fun x_915 x_916 _ => θ) x_912)) x_911)) p.2)
theorem uniL_def (θ : Un) (p a : Ln) : uniL θ p a = (match p.2 with
  | [(s, k)] => bif thHas s θ then θ else bif eqI k 1 then (Nat.lor θ.1 (Nat.shiftLeft 1 s), insU s (bif isZ p.1 then a else pluL a (Int.neg p.1)) θ.2) else θ
  | _ => θ) := by
  show (List.rec (motive := fun _ => Un) θ (fun x_911 x_912 _ => (Prod.rec (motive := fun _ => Un) (fun s_913 k_914 => (List.rec (motive := fun _ => Un) (Bool.rec (motive := fun _ => Un) (Bool.rec (motive := fun _ => Un) θ ((Nat.lor θ.1 (Nat.shiftLeft (nat_lit 1) s_913)), (insU s_913 (Bool.rec (motive := fun _ => _) (pluL a (iNegQ p.1)) a (isZ p.1)) θ.2)) (eqI k_914 (.ofNat (nat_lit 1)))) θ (thHas s_913 θ)) (fun x_915 x_916 _ => θ) x_912)) x_911)) p.2) = _
  try simp only [iAddQ_eq, iMulQ_eq, iNegQ_eq, lenQ_eq, nthQ_eq, setQ_eq, appQ_eq, mapQ_eq, allQ_eq, anyQ_eq, dropQ_eq, takeQ_eq, revQ_eq, getDQ_eq, optLQ_eq, brecC]
  all_goals
    cases hq_1 : p.2 with
    | nil =>
      try dsimp only [cond_false, cond_true]
      all_goals rfl
    | cons y_917 y_918 =>
      try dsimp only [cond_false, cond_true]
      all_goals
        cases y_917 with
        | mk y_919 y_920 =>
          try dsimp only [cond_false, cond_true]
          all_goals
            cases y_918 with
            | nil =>
              try dsimp only [cond_false, cond_true]
              all_goals
                cases hq_4 : (thHas y_919 θ) with
                | false =>
                  try dsimp only [cond_false, cond_true]
                  all_goals
                    cases hq_5 : (eqI y_920 1) with
                    | false =>
                      try dsimp only [cond_false, cond_true]
                      all_goals rfl
                    | true =>
                      try dsimp only [cond_false, cond_true]
                      all_goals rfl
                | true =>
                  try dsimp only [cond_false, cond_true]
                  all_goals rfl
            | cons y_921 y_922 =>
              try dsimp only [cond_false, cond_true]
              all_goals rfl
noncomputable def thLk (s : Nat) : List (Nat × Ln) → Ln :=
  fun e_0 => List.rec (motive := fun _ => Ln) (kL (.ofNat (nat_lit 0))) (fun h_0 t_0 ih => (Prod.rec (motive := fun _ => Ln) (fun t_923 e_924 => (Bool.rec (motive := fun _ => Ln) (ih) e_924 (Nat.beq s t_923))) h_0)) e_0 
theorem thLk_def (s : Nat) (e_0 : List (Nat × Ln)) : thLk s e_0 = (match e_0 with
  | [] => kL 0
  | (t, e) :: r => bif Nat.beq s t then e else thLk s r) := by
  cases e_0 with
  | nil =>
    show (kL (.ofNat (nat_lit 0))) = _
    try simp only [iAddQ_eq, iMulQ_eq, iNegQ_eq, lenQ_eq, nthQ_eq, setQ_eq, appQ_eq, mapQ_eq, allQ_eq, anyQ_eq, dropQ_eq, takeQ_eq, revQ_eq, getDQ_eq, optLQ_eq, brecC]
    all_goals rfl
  | cons h_0 t_0 =>
    show (Prod.rec (motive := fun _ => Ln) (fun t_925 e_926 => (Bool.rec (motive := fun _ => Ln) (thLk s t_0) e_926 (Nat.beq s t_925))) h_0) = _
    try simp only [iAddQ_eq, iMulQ_eq, iNegQ_eq, lenQ_eq, nthQ_eq, setQ_eq, appQ_eq, mapQ_eq, allQ_eq, anyQ_eq, dropQ_eq, takeQ_eq, revQ_eq, getDQ_eq, optLQ_eq, brecC]
    all_goals
      cases h_0 with
      | mk y_927 y_928 =>
        try dsimp only [cond_false, cond_true]
        all_goals
          cases hq_2 : (Nat.beq s y_927) with
          | false =>
            try dsimp only [cond_false, cond_true]
            all_goals rfl
          | true =>
            try dsimp only [cond_false, cond_true]
            all_goals rfl
/-- a list, the greatest first, as a function -/
noncomputable def balF  : Nat → List (Nat × Ln) → Nat × (Nat → Ln) × List (Nat × Ln) :=
  fun e_0 e_1 => Nat.rec (motive := fun _ => List (Nat × Ln) → Nat × (Nat → Ln) × List (Nat × Ln)) (fun e_1 => (List.rec (motive := fun _ => Nat × (Nat → Ln) × List (Nat × Ln)) ((nat_lit 0), (fun _ => (kL (.ofNat (nat_lit 0)))), []) (fun x_929 r_930 _ => (Prod.rec (motive := fun _ => Nat × (Nat → Ln) × List (Nat × Ln)) (fun s_931 e_932 => (s_931, (fun _ => e_932), r_930)) x_929)) e_1)) (fun t_0 ih e_1 => (Prod.rec (motive := fun _ => Nat × (Nat → Ln) × List (Nat × Ln)) (fun m_933 x_934 => (Prod.rec (motive := fun _ => Nat × (Nat → Ln) × List (Nat × Ln)) (fun f_935 x_936 => (List.rec (motive := fun _ => Nat × (Nat → Ln) × List (Nat × Ln)) (m_933, f_935, []) (fun q_937 r_938 _ => (Prod.rec (motive := fun _ => Nat × (Nat → Ln) × List (Nat × Ln)) (fun m2_939 x_940 => (Prod.rec (motive := fun _ => Nat × (Nat → Ln) × List (Nat × Ln)) (fun f2_941 r2_942 => (m2_939, (fun t => (Bool.rec (motive := fun _ => _) (f2_941 t) (f_935 t) (Nat.ble m_933 t))), r2_942)) x_940)) (ih (q_937 :: r_938)))) x_936)) x_934)) (ih e_1))) e_0 e_1
theorem balF_def  (e_0 : Nat) (e_1 : List (Nat × Ln)) : balF  e_0 e_1 = (match e_0, e_1 with
  | 0, [] => (0, fun _ => kL 0, [])
  | 0, (s, e) :: r => (s, fun _ => e, r)
  | n + 1, l => match balF n l with
    | (m, f, []) => (m, f, [])
    | (m, f, q :: r) => match balF n (q :: r) with
      | (m2, f2, r2) => (m2, fun t => bif Nat.ble m t then f t else f2 t, r2)) := by
  cases e_0 with
  | zero =>
    show (List.rec (motive := fun _ => Nat × (Nat → Ln) × List (Nat × Ln)) ((nat_lit 0), (fun _ => (kL (.ofNat (nat_lit 0)))), []) (fun x_943 r_944 _ => (Prod.rec (motive := fun _ => Nat × (Nat → Ln) × List (Nat × Ln)) (fun s_945 e_946 => (s_945, (fun _ => e_946), r_944)) x_943)) e_1) = _
    try simp only [iAddQ_eq, iMulQ_eq, iNegQ_eq, lenQ_eq, nthQ_eq, setQ_eq, appQ_eq, mapQ_eq, allQ_eq, anyQ_eq, dropQ_eq, takeQ_eq, revQ_eq, getDQ_eq, optLQ_eq, brecC]
    all_goals
      cases e_1 with
      | nil =>
        try dsimp only [cond_false, cond_true]
        all_goals rfl
      | cons y_947 y_948 =>
        try dsimp only [cond_false, cond_true]
        all_goals
          cases y_947 with
          | mk y_949 y_950 =>
            try dsimp only [cond_false, cond_true]
            all_goals rfl
  | succ t_0 =>
    show (Prod.rec (motive := fun _ => Nat × (Nat → Ln) × List (Nat × Ln)) (fun m_951 x_952 => (Prod.rec (motive := fun _ => Nat × (Nat → Ln) × List (Nat × Ln)) (fun f_953 x_954 => (List.rec (motive := fun _ => Nat × (Nat → Ln) × List (Nat × Ln)) (m_951, f_953, []) (fun q_955 r_956 _ => (Prod.rec (motive := fun _ => Nat × (Nat → Ln) × List (Nat × Ln)) (fun m2_957 x_958 => (Prod.rec (motive := fun _ => Nat × (Nat → Ln) × List (Nat × Ln)) (fun f2_959 r2_960 => (m2_957, (fun t => (Bool.rec (motive := fun _ => _) (f2_959 t) (f_953 t) (Nat.ble m_951 t))), r2_960)) x_958)) (balF t_0 (q_955 :: r_956)))) x_954)) x_952)) (balF t_0 e_1)) = _
    try simp only [iAddQ_eq, iMulQ_eq, iNegQ_eq, lenQ_eq, nthQ_eq, setQ_eq, appQ_eq, mapQ_eq, allQ_eq, anyQ_eq, dropQ_eq, takeQ_eq, revQ_eq, getDQ_eq, optLQ_eq, brecC]
    all_goals
      cases hq_3 : (balF t_0 e_1) with
      | mk y_961 y_962 =>
        try dsimp only [cond_false, cond_true]
        all_goals
          cases y_962 with
          | mk y_963 y_964 =>
            try dsimp only [cond_false, cond_true]
            all_goals
              cases y_964 with
              | nil =>
                try dsimp only [cond_false, cond_true]
                all_goals rfl
              | cons y_965 y_966 =>
                try dsimp only [cond_false, cond_true]
                all_goals
                  cases hq_6 : (balF t_0 ((y_965 :: y_966))) with
                  | mk y_967 y_968 =>
                    try dsimp only [cond_false, cond_true]
                    all_goals
                      cases y_968 with
                      | mk y_969 y_970 =>
                        try dsimp only [cond_false, cond_true]
                        all_goals rfl
noncomputable def withF (θ : Un) (k : Th → Bool) : Bool :=
  (Prod.rec (motive := fun _ => Bool) (fun x_971 x_972 => (Prod.rec (motive := fun _ => Bool) (fun f_973 x_974 => (k f_973)) x_972)) (balF (nat_lit 9) θ.2))
theorem withF_def (θ : Un) (k : Th → Bool) : withF θ k = (match balF 9 θ.2 with
  | (_, f, _) => k f) := by
  show (Prod.rec (motive := fun _ => Bool) (fun x_971 x_972 => (Prod.rec (motive := fun _ => Bool) (fun f_973 x_974 => (k f_973)) x_972)) (balF (nat_lit 9) θ.2)) = _
  all_goals
    cases hq_1 : (balF 9 θ.2) with
    | mk y_975 y_976 =>
      try dsimp only [cond_false, cond_true]
      all_goals
        cases y_976 with
        | mk y_977 y_978 =>
          try dsimp only [cond_false, cond_true]
          all_goals rfl
theorem withF_ok {θ : Un} {k : Th → Bool} (h : withF θ k = true) : ∃ f, k f = true := by
  rw [withF_def] at h
  split at h
  exact ⟨_, h⟩
noncomputable def uniV (θ : Un) (p a : AV) : Un :=
  (Sum.rec (motive := fun _ => Un) (fun x_979 => (Prod.rec (motive := fun _ => Un) (fun x_981 e_982 => (Sum.rec (motive := fun _ => Un) (fun x_983 => (Prod.rec (motive := fun _ => Un) (fun x_985 e_986 => (uniL θ e_982 e_986)) x_983)) (fun x_984 => θ) a)) x_979)) (fun x_980 => θ) p)
theorem uniV_def (θ : Un) (p a : AV) : uniV θ p a = (match p, a with
  | .inl (_, e), .inl (_, e') => uniL θ e e'
  | _, _ => θ) := by
  show (Sum.rec (motive := fun _ => Un) (fun x_979 => (Prod.rec (motive := fun _ => Un) (fun x_981 e_982 => (Sum.rec (motive := fun _ => Un) (fun x_983 => (Prod.rec (motive := fun _ => Un) (fun x_985 e_986 => (uniL θ e_982 e_986)) x_983)) (fun x_984 => θ) a)) x_979)) (fun x_980 => θ) p) = _
  all_goals
    cases p with
    | inl y_987 =>
      try dsimp only [cond_false, cond_true]
      all_goals
        cases y_987 with
        | mk y_988 y_989 =>
          try dsimp only [cond_false, cond_true]
          all_goals
            cases a with
            | inl y_990 =>
              try dsimp only [cond_false, cond_true]
              all_goals
                cases y_990 with
                | mk y_991 y_992 =>
                  try dsimp only [cond_false, cond_true]
                  all_goals rfl
            | inr y_993 =>
              try dsimp only [cond_false, cond_true]
              all_goals rfl
    | inr y_994 =>
      try dsimp only [cond_false, cond_true]
      all_goals rfl
noncomputable def uniVs  : Un → List AV → List AV → Un :=
  fun θ e_0 e_1 => List.rec (motive := fun _ => Un → List AV → Un) (fun θ e_1 => θ) (fun h_0 t_0 ih θ e_1 => (List.rec (motive := fun _ => Un) θ (fun a_995 q_996 _ => (ih (uniV θ h_0 a_995) q_996)) e_1)) e_0 θ e_1
theorem uniVs_def  (θ : Un) (e_0 : List AV) (e_1 : List AV) : uniVs  θ e_0 e_1 = (match e_0, e_1 with
  | p :: r, a :: q => uniVs (uniV θ p a) r q
  | _, _ => θ) := by
  cases e_0 with
  | nil =>
    show θ = _
    try simp only [iAddQ_eq, iMulQ_eq, iNegQ_eq, lenQ_eq, nthQ_eq, setQ_eq, appQ_eq, mapQ_eq, allQ_eq, anyQ_eq, dropQ_eq, takeQ_eq, revQ_eq, getDQ_eq, optLQ_eq, brecC]
    all_goals rfl
  | cons h_0 t_0 =>
    show (List.rec (motive := fun _ => Un) θ (fun a_997 q_998 _ => (uniVs (uniV θ h_0 a_997) t_0 q_998)) e_1) = _
    try simp only [iAddQ_eq, iMulQ_eq, iNegQ_eq, lenQ_eq, nthQ_eq, setQ_eq, appQ_eq, mapQ_eq, allQ_eq, anyQ_eq, dropQ_eq, takeQ_eq, revQ_eq, getDQ_eq, optLQ_eq, brecC]
    all_goals
      cases e_1 with
      | nil =>
        try dsimp only [cond_false, cond_true]
        all_goals rfl
      | cons y_999 y_1000 =>
        try dsimp only [cond_false, cond_true]
        all_goals rfl
noncomputable def uniS  : Nat → Un → List Sg → List Sg → Un :=
  fun e_0 e_1 e_2 e_3 => Nat.rec (motive := fun _ => Un → List Sg → List Sg → Un) (fun e_1 e_2 e_3 => e_1) (fun t_0 ih e_1 e_2 e_3 => (List.rec (motive := fun _ => Un) e_1 (fun x_1001 r_1002 _ => (Sum.rec (motive := fun _ => Un) (fun e_1003 => (List.rec (motive := fun _ => Un) e_1 (fun x_1005 q_1006 _ => (Sum.rec (motive := fun _ => Un) (fun e_1007 => (ih (uniL e_1 e_1003 e_1007) r_1002 q_1006)) (fun x_1008 => (Prod.rec (motive := fun _ => Un) (fun m_1009 x_1010 => (Prod.rec (motive := fun _ => Un) (fun lo_1011 hi_1012 => (Nat.rec (motive := fun _ => Un) (ih e_1 ((.inl e_1003) :: r_1002) q_1006) (fun m_1013 _ => (ih (Bool.rec (motive := fun _ => Un) e_1 (uniL e_1 e_1003 (kL lo_1011)) (eqI lo_1011 hi_1012)) r_1002 ((.inr (m_1013, lo_1011, hi_1012)) :: q_1006))) m_1009)) x_1010)) x_1008)) x_1005)) e_3)) (fun x_1004 => (Prod.rec (motive := fun _ => Un) (fun m_1014 x_1015 => (Prod.rec (motive := fun _ => Un) (fun lo_1016 hi_1017 => (List.rec (motive := fun _ => Un) e_1 (fun x_1018 q_1019 _ => (Sum.rec (motive := fun _ => Un) (fun e_1020 => (Nat.rec (motive := fun _ => Un) (ih e_1 r_1002 ((.inl e_1020) :: q_1019)) (fun m_1022 _ => (ih e_1 ((.inr (m_1022, lo_1016, hi_1017)) :: r_1002) q_1019)) m_1014)) (fun x_1021 => (Prod.rec (motive := fun _ => Un) (fun m_1023 x_1024 => (Prod.rec (motive := fun _ => Un) (fun lo_1025 hi_1026 => (Bool.rec (motive := fun _ => Un) (ih e_1 ((.inr ((Nat.sub m_1014 m_1023), lo_1016, hi_1017)) :: r_1002) q_1019) (Bool.rec (motive := fun _ => Un) (ih e_1 r_1002 ((.inr ((Nat.sub m_1023 m_1014), lo_1025, hi_1026)) :: q_1019)) (ih e_1 r_1002 q_1019) (Nat.beq m_1014 m_1023)) (Nat.ble m_1014 m_1023))) x_1024)) x_1021)) x_1018)) e_3)) x_1015)) x_1004)) x_1001)) e_2)) e_0 e_1 e_2 e_3
theorem uniS_def  (e_0 : Nat) (e_1 : Un) (e_2 : List Sg) (e_3 : List Sg) : uniS  e_0 e_1 e_2 e_3 = (match e_0, e_1, e_2, e_3 with
  | 0, θ, _, _ => θ
  | n + 1, θ, p, a => match p, a with
    | .inl e :: r, .inl e' :: q => uniS n (uniL θ e e') r q
    | .inl e :: r, .inr (m, lo, hi) :: q => match m with
      | 0 => uniS n θ (.inl e :: r) q
      | m + 1 => uniS n (bif eqI lo hi then uniL θ e (kL lo) else θ) r (.inr (m, lo, hi) :: q)
    | .inr (m, lo, hi) :: r, .inl e' :: q => match m with
      | 0 => uniS n θ r (.inl e' :: q)
      | m + 1 => uniS n θ (.inr (m, lo, hi) :: r) q
    | .inr (m, lo, hi) :: r, .inr (m', lo', hi') :: q => bif Nat.ble m m' then (bif Nat.beq m m' then uniS n θ r q else uniS n θ r (.inr (Nat.sub m' m, lo', hi') :: q)) else uniS n θ (.inr (Nat.sub m m', lo, hi) :: r) q
    | _, _ => θ) := by
  cases e_0 with
  | zero =>
    show e_1 = _
    try simp only [iAddQ_eq, iMulQ_eq, iNegQ_eq, lenQ_eq, nthQ_eq, setQ_eq, appQ_eq, mapQ_eq, allQ_eq, anyQ_eq, dropQ_eq, takeQ_eq, revQ_eq, getDQ_eq, optLQ_eq, brecC]
    all_goals rfl
  | succ t_0 =>
    show (List.rec (motive := fun _ => Un) e_1 (fun x_1027 r_1028 _ => (Sum.rec (motive := fun _ => Un) (fun e_1029 => (List.rec (motive := fun _ => Un) e_1 (fun x_1031 q_1032 _ => (Sum.rec (motive := fun _ => Un) (fun e_1033 => (uniS t_0 (uniL e_1 e_1029 e_1033) r_1028 q_1032)) (fun x_1034 => (Prod.rec (motive := fun _ => Un) (fun m_1035 x_1036 => (Prod.rec (motive := fun _ => Un) (fun lo_1037 hi_1038 => (Nat.rec (motive := fun _ => Un) (uniS t_0 e_1 ((.inl e_1029) :: r_1028) q_1032) (fun m_1039 _ => (uniS t_0 (Bool.rec (motive := fun _ => Un) e_1 (uniL e_1 e_1029 (kL lo_1037)) (eqI lo_1037 hi_1038)) r_1028 ((.inr (m_1039, lo_1037, hi_1038)) :: q_1032))) m_1035)) x_1036)) x_1034)) x_1031)) e_3)) (fun x_1030 => (Prod.rec (motive := fun _ => Un) (fun m_1040 x_1041 => (Prod.rec (motive := fun _ => Un) (fun lo_1042 hi_1043 => (List.rec (motive := fun _ => Un) e_1 (fun x_1044 q_1045 _ => (Sum.rec (motive := fun _ => Un) (fun e_1046 => (Nat.rec (motive := fun _ => Un) (uniS t_0 e_1 r_1028 ((.inl e_1046) :: q_1045)) (fun m_1048 _ => (uniS t_0 e_1 ((.inr (m_1048, lo_1042, hi_1043)) :: r_1028) q_1045)) m_1040)) (fun x_1047 => (Prod.rec (motive := fun _ => Un) (fun m_1049 x_1050 => (Prod.rec (motive := fun _ => Un) (fun lo_1051 hi_1052 => (Bool.rec (motive := fun _ => Un) (uniS t_0 e_1 ((.inr ((Nat.sub m_1040 m_1049), lo_1042, hi_1043)) :: r_1028) q_1045) (Bool.rec (motive := fun _ => Un) (uniS t_0 e_1 r_1028 ((.inr ((Nat.sub m_1049 m_1040), lo_1051, hi_1052)) :: q_1045)) (uniS t_0 e_1 r_1028 q_1045) (Nat.beq m_1040 m_1049)) (Nat.ble m_1040 m_1049))) x_1050)) x_1047)) x_1044)) e_3)) x_1041)) x_1030)) x_1027)) e_2) = _
    try simp only [iAddQ_eq, iMulQ_eq, iNegQ_eq, lenQ_eq, nthQ_eq, setQ_eq, appQ_eq, mapQ_eq, allQ_eq, anyQ_eq, dropQ_eq, takeQ_eq, revQ_eq, getDQ_eq, optLQ_eq, brecC]
    all_goals
      cases e_2 with
      | nil =>
        try dsimp only [cond_false, cond_true]
        all_goals rfl
      | cons y_1053 y_1054 =>
        try dsimp only [cond_false, cond_true]
        all_goals
          cases y_1053 with
          | inl y_1055 =>
            try dsimp only [cond_false, cond_true]
            all_goals
              cases e_3 with
              | nil =>
                try dsimp only [cond_false, cond_true]
                all_goals rfl
              | cons y_1056 y_1057 =>
                try dsimp only [cond_false, cond_true]
                all_goals
                  cases y_1056 with
                  | inl y_1058 =>
                    try dsimp only [cond_false, cond_true]
                    all_goals rfl
                  | inr y_1059 =>
                    try dsimp only [cond_false, cond_true]
                    all_goals
                      cases y_1059 with
                      | mk y_1060 y_1061 =>
                        try dsimp only [cond_false, cond_true]
                        all_goals
                          cases y_1061 with
                          | mk y_1062 y_1063 =>
                            try dsimp only [cond_false, cond_true]
                            all_goals
                              cases y_1060 with
                              | zero =>
                                try dsimp only [cond_false, cond_true]
                                all_goals rfl
                              | succ y_1064 =>
                                try dsimp only [cond_false, cond_true]
                                all_goals rfl
          | inr y_1065 =>
            try dsimp only [cond_false, cond_true]
            all_goals
              cases y_1065 with
              | mk y_1066 y_1067 =>
                try dsimp only [cond_false, cond_true]
                all_goals
                  cases y_1067 with
                  | mk y_1068 y_1069 =>
                    try dsimp only [cond_false, cond_true]
                    all_goals
                      cases e_3 with
                      | nil =>
                        try dsimp only [cond_false, cond_true]
                        all_goals rfl
                      | cons y_1070 y_1071 =>
                        try dsimp only [cond_false, cond_true]
                        all_goals
                          cases y_1070 with
                          | inl y_1072 =>
                            try dsimp only [cond_false, cond_true]
                            all_goals
                              cases y_1066 with
                              | zero =>
                                try dsimp only [cond_false, cond_true]
                                all_goals rfl
                              | succ y_1073 =>
                                try dsimp only [cond_false, cond_true]
                                all_goals rfl
                          | inr y_1074 =>
                            try dsimp only [cond_false, cond_true]
                            all_goals
                              cases y_1074 with
                              | mk y_1075 y_1076 =>
                                try dsimp only [cond_false, cond_true]
                                all_goals
                                  cases y_1076 with
                                  | mk y_1077 y_1078 =>
                                    try dsimp only [cond_false, cond_true]
                                    all_goals
                                      cases hq_15 : (Nat.ble y_1066 y_1075) with
                                      | false =>
                                        try dsimp only [cond_false, cond_true]
                                        all_goals rfl
                                      | true =>
                                        try dsimp only [cond_false, cond_true]
                                        all_goals
                                          cases hq_16 : (Nat.beq y_1066 y_1075) with
                                          | false =>
                                            try dsimp only [cond_false, cond_true]
                                            all_goals rfl
                                          | true =>
                                            try dsimp only [cond_false, cond_true]
                                            all_goals rfl
noncomputable def uniC (θ : Un) (p a : AC) : Un :=
  (Sum.rec (motive := fun _ => Un) (fun x_1079 => (Prod.rec (motive := fun _ => Un) (fun x_1081 l_1082 => (Sum.rec (motive := fun _ => Un) (fun x_1083 => (Prod.rec (motive := fun _ => Un) (fun x_1085 l_1086 => (uniVs θ l_1082 l_1086)) x_1083)) (fun x_1084 => θ) a)) x_1079)) (fun x_1080 => (Prod.rec (motive := fun _ => Un) (fun x_1087 x_1088 => (Sum.rec (motive := fun _ => Un) (fun s_1089 => (Sum.rec (motive := fun _ => Un) (fun x_1091 => θ) (fun x_1092 => (Prod.rec (motive := fun _ => Un) (fun x_1093 x_1094 => (Sum.rec (motive := fun _ => Un) (fun s_1095 => (uniS (nat_lit 600) θ s_1089 s_1095)) (fun x_1096 => θ) x_1094)) x_1092)) a)) (fun x_1090 => θ) x_1088)) x_1080)) p)
theorem uniC_def (θ : Un) (p a : AC) : uniC θ p a = (match p, a with
  | .inl (_, l), .inl (_, l') => uniVs θ l l'
  | .inr (_, .inl s), .inr (_, .inl s') => uniS 600 θ s s'
  | _, _ => θ) := by
  show (Sum.rec (motive := fun _ => Un) (fun x_1079 => (Prod.rec (motive := fun _ => Un) (fun x_1081 l_1082 => (Sum.rec (motive := fun _ => Un) (fun x_1083 => (Prod.rec (motive := fun _ => Un) (fun x_1085 l_1086 => (uniVs θ l_1082 l_1086)) x_1083)) (fun x_1084 => θ) a)) x_1079)) (fun x_1080 => (Prod.rec (motive := fun _ => Un) (fun x_1087 x_1088 => (Sum.rec (motive := fun _ => Un) (fun s_1089 => (Sum.rec (motive := fun _ => Un) (fun x_1091 => θ) (fun x_1092 => (Prod.rec (motive := fun _ => Un) (fun x_1093 x_1094 => (Sum.rec (motive := fun _ => Un) (fun s_1095 => (uniS (nat_lit 600) θ s_1089 s_1095)) (fun x_1096 => θ) x_1094)) x_1092)) a)) (fun x_1090 => θ) x_1088)) x_1080)) p) = _
  all_goals
    cases p with
    | inl y_1097 =>
      try dsimp only [cond_false, cond_true]
      all_goals
        cases y_1097 with
        | mk y_1098 y_1099 =>
          try dsimp only [cond_false, cond_true]
          all_goals
            cases a with
            | inl y_1100 =>
              try dsimp only [cond_false, cond_true]
              all_goals
                cases y_1100 with
                | mk y_1101 y_1102 =>
                  try dsimp only [cond_false, cond_true]
                  all_goals rfl
            | inr y_1103 =>
              try dsimp only [cond_false, cond_true]
              all_goals rfl
    | inr y_1104 =>
      try dsimp only [cond_false, cond_true]
      all_goals
        cases y_1104 with
        | mk y_1105 y_1106 =>
          try dsimp only [cond_false, cond_true]
          all_goals
            cases y_1106 with
            | inl y_1107 =>
              try dsimp only [cond_false, cond_true]
              all_goals
                cases a with
                | inl y_1108 =>
                  try dsimp only [cond_false, cond_true]
                  all_goals rfl
                | inr y_1109 =>
                  try dsimp only [cond_false, cond_true]
                  all_goals
                    cases y_1109 with
                    | mk y_1110 y_1111 =>
                      try dsimp only [cond_false, cond_true]
                      all_goals
                        cases y_1111 with
                        | inl y_1112 =>
                          try dsimp only [cond_false, cond_true]
                          all_goals rfl
                        | inr y_1113 =>
                          try dsimp only [cond_false, cond_true]
                          all_goals rfl
            | inr y_1114 =>
              try dsimp only [cond_false, cond_true]
              all_goals rfl
noncomputable def uniH  : Un → AH → AH → Un :=
  fun θ e_0 e_1 => List.rec (motive := fun _ => Un → AH → Un) (fun θ e_1 => θ) (fun h_0 t_0 ih θ e_1 => (List.rec (motive := fun _ => Un) θ (fun a_1115 q_1116 _ => (ih (uniC θ h_0 a_1115) q_1116)) e_1)) e_0 θ e_1
theorem uniH_def  (θ : Un) (e_0 : AH) (e_1 : AH) : uniH  θ e_0 e_1 = (match e_0, e_1 with
  | p :: r, a :: q => uniH (uniC θ p a) r q
  | _, _ => θ) := by
  cases e_0 with
  | nil =>
    show θ = _
    try simp only [iAddQ_eq, iMulQ_eq, iNegQ_eq, lenQ_eq, nthQ_eq, setQ_eq, appQ_eq, mapQ_eq, allQ_eq, anyQ_eq, dropQ_eq, takeQ_eq, revQ_eq, getDQ_eq, optLQ_eq, brecC]
    all_goals rfl
  | cons h_0 t_0 =>
    show (List.rec (motive := fun _ => Un) θ (fun a_1117 q_1118 _ => (uniH (uniC θ h_0 a_1117) t_0 q_1118)) e_1) = _
    try simp only [iAddQ_eq, iMulQ_eq, iNegQ_eq, lenQ_eq, nthQ_eq, setQ_eq, appQ_eq, mapQ_eq, allQ_eq, anyQ_eq, dropQ_eq, takeQ_eq, revQ_eq, getDQ_eq, optLQ_eq, brecC]
    all_goals
      cases e_1 with
      | nil =>
        try dsimp only [cond_false, cond_true]
        all_goals rfl
      | cons y_1119 y_1120 =>
        try dsimp only [cond_false, cond_true]
        all_goals rfl
noncomputable def okNum (tab : Tb) (fs : List Ln) (θ : Un) (p a : Ln) : Bool :=
  (List.rec (motive := fun _ => Bool) true (fun x_1121 x_1122 _ => (Prod.rec (motive := fun _ => Bool) (fun s_1123 x_1124 => (List.rec (motive := fun _ => Bool) (Bool.rec (motive := fun _ => Bool) true (eqL tab fs (sbL (fun s => (thLk s θ.2)) p) a) (thHas s_1123 θ)) (fun x_1125 x_1126 _ => true) x_1122)) x_1121)) p.2)
theorem okNum_def (tab : Tb) (fs : List Ln) (θ : Un) (p a : Ln) : okNum tab fs θ p a = (match p.2 with
  | [(s, _)] => bif thHas s θ then eqL tab fs (sbL (fun s => thLk s θ.2) p) a else true
  | _ => true) := by
  show (List.rec (motive := fun _ => Bool) true (fun x_1121 x_1122 _ => (Prod.rec (motive := fun _ => Bool) (fun s_1123 x_1124 => (List.rec (motive := fun _ => Bool) (Bool.rec (motive := fun _ => Bool) true (eqL tab fs (sbL (fun s => (thLk s θ.2)) p) a) (thHas s_1123 θ)) (fun x_1125 x_1126 _ => true) x_1122)) x_1121)) p.2) = _
  try simp only [iAddQ_eq, iMulQ_eq, iNegQ_eq, lenQ_eq, nthQ_eq, setQ_eq, appQ_eq, mapQ_eq, allQ_eq, anyQ_eq, dropQ_eq, takeQ_eq, revQ_eq, getDQ_eq, optLQ_eq, brecC]
  all_goals
    cases hq_1 : p.2 with
    | nil =>
      try dsimp only [cond_false, cond_true]
      all_goals rfl
    | cons y_1127 y_1128 =>
      try dsimp only [cond_false, cond_true]
      all_goals
        cases y_1127 with
        | mk y_1129 y_1130 =>
          try dsimp only [cond_false, cond_true]
          all_goals
            cases y_1128 with
            | nil =>
              try dsimp only [cond_false, cond_true]
              all_goals
                cases hq_4 : (thHas y_1129 θ) with
                | false =>
                  try dsimp only [cond_false, cond_true]
                  all_goals rfl
                | true =>
                  try dsimp only [cond_false, cond_true]
                  all_goals rfl
            | cons y_1131 y_1132 =>
              try dsimp only [cond_false, cond_true]
              all_goals rfl
noncomputable def okNums (tab : Tb) (fs : List Ln) (θ : Un) : List Ln → List Ln → Bool :=
  fun e_0 e_1 => List.rec (motive := fun _ => List Ln → Bool) (fun e_1 => (List.rec (motive := fun _ => Bool) true (fun x_1133 x_1134 _ => false) e_1)) (fun h_0 t_0 ih e_1 => (List.rec (motive := fun _ => Bool) false (fun a_1135 q_1136 _ => (Bool.rec (motive := fun _ => Bool) false (ih q_1136) (okNum tab fs θ h_0 a_1135))) e_1)) e_0 e_1
theorem okNums_def (tab : Tb) (fs : List Ln) (θ : Un) (e_0 : List Ln) (e_1 : List Ln) : okNums tab fs θ e_0 e_1 = (match e_0, e_1 with
  | p :: r, a :: q => bif okNum tab fs θ p a then okNums tab fs θ r q else false
  | [], [] => true
  | _, _ => false) := by
  cases e_0 with
  | nil =>
    show (List.rec (motive := fun _ => Bool) true (fun x_1137 x_1138 _ => false) e_1) = _
    try simp only [iAddQ_eq, iMulQ_eq, iNegQ_eq, lenQ_eq, nthQ_eq, setQ_eq, appQ_eq, mapQ_eq, allQ_eq, anyQ_eq, dropQ_eq, takeQ_eq, revQ_eq, getDQ_eq, optLQ_eq, brecC]
    all_goals
      cases e_1 with
      | nil =>
        try dsimp only [cond_false, cond_true]
        all_goals rfl
      | cons y_1139 y_1140 =>
        try dsimp only [cond_false, cond_true]
        all_goals rfl
  | cons h_0 t_0 =>
    show (List.rec (motive := fun _ => Bool) false (fun a_1141 q_1142 _ => (Bool.rec (motive := fun _ => Bool) false (okNums tab fs θ t_0 q_1142) (okNum tab fs θ h_0 a_1141))) e_1) = _
    try simp only [iAddQ_eq, iMulQ_eq, iNegQ_eq, lenQ_eq, nthQ_eq, setQ_eq, appQ_eq, mapQ_eq, allQ_eq, anyQ_eq, dropQ_eq, takeQ_eq, revQ_eq, getDQ_eq, optLQ_eq, brecC]
    all_goals
      cases e_1 with
      | nil =>
        try dsimp only [cond_false, cond_true]
        all_goals rfl
      | cons y_1143 y_1144 =>
        try dsimp only [cond_false, cond_true]
        all_goals
          cases hq_3 : (okNum tab fs θ h_0 y_1143) with
          | false =>
            try dsimp only [cond_false, cond_true]
            all_goals rfl
          | true =>
            try dsimp only [cond_false, cond_true]
            all_goals rfl
noncomputable def uniN  : Un → List Ln → List Ln → Un :=
  fun θ e_0 e_1 => List.rec (motive := fun _ => Un → List Ln → Un) (fun θ e_1 => θ) (fun h_0 t_0 ih θ e_1 => (List.rec (motive := fun _ => Un) θ (fun a_1145 q_1146 _ => (ih (uniL θ h_0 a_1145) q_1146)) e_1)) e_0 θ e_1
theorem uniN_def  (θ : Un) (e_0 : List Ln) (e_1 : List Ln) : uniN  θ e_0 e_1 = (match e_0, e_1 with
  | p :: r, a :: q => uniN (uniL θ p a) r q
  | _, _ => θ) := by
  cases e_0 with
  | nil =>
    show θ = _
    try simp only [iAddQ_eq, iMulQ_eq, iNegQ_eq, lenQ_eq, nthQ_eq, setQ_eq, appQ_eq, mapQ_eq, allQ_eq, anyQ_eq, dropQ_eq, takeQ_eq, revQ_eq, getDQ_eq, optLQ_eq, brecC]
    all_goals rfl
  | cons h_0 t_0 =>
    show (List.rec (motive := fun _ => Un) θ (fun a_1147 q_1148 _ => (uniN (uniL θ h_0 a_1147) t_0 q_1148)) e_1) = _
    try simp only [iAddQ_eq, iMulQ_eq, iNegQ_eq, lenQ_eq, nthQ_eq, setQ_eq, appQ_eq, mapQ_eq, allQ_eq, anyQ_eq, dropQ_eq, takeQ_eq, revQ_eq, getDQ_eq, optLQ_eq, brecC]
    all_goals
      cases e_1 with
      | nil =>
        try dsimp only [cond_false, cond_true]
        all_goals rfl
      | cons y_1149 y_1150 =>
        try dsimp only [cond_false, cond_true]
        all_goals rfl
-- checks
noncomputable def chkV (tab : Tb) (fs : List Ln) (θ : Th) (p a : AV) : Bool :=
  (Sum.rec (motive := fun _ => Bool) (fun x_1151 => (Prod.rec (motive := fun _ => Bool) (fun b_1153 e_1154 => (Sum.rec (motive := fun _ => Bool) (fun x_1155 => (Prod.rec (motive := fun _ => Bool) (fun b_1157 e_1158 => (Bool.rec (motive := fun _ => Bool) false (eqL tab fs (sbL θ e_1154) e_1158) (lnB b_1153 b_1157))) x_1155)) (fun x_1156 => false) a)) x_1151)) (fun x_1152 => (Sum.rec (motive := fun _ => Bool) (fun x_1159 => (Option.rec (motive := fun _ => Bool) (Sum.rec (motive := fun _ => Bool) (fun x_1162 => false) (fun x_1163 => (Sum.rec (motive := fun _ => Bool) (fun x_1164 => (Option.rec (motive := fun _ => Bool) true (fun x_1166 => false) x_1164)) (fun x_1165 => false) x_1163)) a) (fun i_1161 => (Sum.rec (motive := fun _ => Bool) (fun x_1167 => false) (fun x_1168 => (Sum.rec (motive := fun _ => Bool) (fun x_1169 => (Option.rec (motive := fun _ => Bool) false (fun j_1171 => (Nat.beq i_1161 j_1171)) x_1169)) (fun x_1170 => false) x_1168)) a)) x_1159)) (fun x_1160 => false) x_1152)) p)
theorem chkV_def (tab : Tb) (fs : List Ln) (θ : Th) (p a : AV) : chkV tab fs θ p a = (match p, a with
  | .inl (b, e), .inl (b', e') => bif lnB b b' then eqL tab fs (sbL θ e) e' else false
  | .inr (.inl (some i)), .inr (.inl (some j)) => Nat.beq i j
  | .inr (.inl none), .inr (.inl none) => true
  | _, _ => false) := by
  show (Sum.rec (motive := fun _ => Bool) (fun x_1151 => (Prod.rec (motive := fun _ => Bool) (fun b_1153 e_1154 => (Sum.rec (motive := fun _ => Bool) (fun x_1155 => (Prod.rec (motive := fun _ => Bool) (fun b_1157 e_1158 => (Bool.rec (motive := fun _ => Bool) false (eqL tab fs (sbL θ e_1154) e_1158) (lnB b_1153 b_1157))) x_1155)) (fun x_1156 => false) a)) x_1151)) (fun x_1152 => (Sum.rec (motive := fun _ => Bool) (fun x_1159 => (Option.rec (motive := fun _ => Bool) (Sum.rec (motive := fun _ => Bool) (fun x_1162 => false) (fun x_1163 => (Sum.rec (motive := fun _ => Bool) (fun x_1164 => (Option.rec (motive := fun _ => Bool) true (fun x_1166 => false) x_1164)) (fun x_1165 => false) x_1163)) a) (fun i_1161 => (Sum.rec (motive := fun _ => Bool) (fun x_1167 => false) (fun x_1168 => (Sum.rec (motive := fun _ => Bool) (fun x_1169 => (Option.rec (motive := fun _ => Bool) false (fun j_1171 => (Nat.beq i_1161 j_1171)) x_1169)) (fun x_1170 => false) x_1168)) a)) x_1159)) (fun x_1160 => false) x_1152)) p) = _
  try simp only [iAddQ_eq, iMulQ_eq, iNegQ_eq, lenQ_eq, nthQ_eq, setQ_eq, appQ_eq, mapQ_eq, allQ_eq, anyQ_eq, dropQ_eq, takeQ_eq, revQ_eq, getDQ_eq, optLQ_eq, brecC]
  all_goals
    cases p with
    | inl y_1172 =>
      try dsimp only [cond_false, cond_true]
      all_goals
        cases y_1172 with
        | mk y_1173 y_1174 =>
          try dsimp only [cond_false, cond_true]
          all_goals
            cases a with
            | inl y_1175 =>
              try dsimp only [cond_false, cond_true]
              all_goals
                cases y_1175 with
                | mk y_1176 y_1177 =>
                  try dsimp only [cond_false, cond_true]
                  all_goals
                    cases hq_5 : (lnB y_1173 y_1176) with
                    | false =>
                      try dsimp only [cond_false, cond_true]
                      all_goals rfl
                    | true =>
                      try dsimp only [cond_false, cond_true]
                      all_goals rfl
            | inr y_1178 =>
              try dsimp only [cond_false, cond_true]
              all_goals rfl
    | inr y_1179 =>
      try dsimp only [cond_false, cond_true]
      all_goals
        cases y_1179 with
        | inl y_1180 =>
          try dsimp only [cond_false, cond_true]
          all_goals
            cases y_1180 with
            | none =>
              try dsimp only [cond_false, cond_true]
              all_goals
                cases a with
                | inl y_1181 =>
                  try dsimp only [cond_false, cond_true]
                  all_goals rfl
                | inr y_1182 =>
                  try dsimp only [cond_false, cond_true]
                  all_goals
                    cases y_1182 with
                    | inl y_1183 =>
                      try dsimp only [cond_false, cond_true]
                      all_goals
                        cases y_1183 with
                        | none =>
                          try dsimp only [cond_false, cond_true]
                          all_goals rfl
                        | some y_1184 =>
                          try dsimp only [cond_false, cond_true]
                          all_goals rfl
                    | inr y_1185 =>
                      try dsimp only [cond_false, cond_true]
                      all_goals rfl
            | some y_1186 =>
              try dsimp only [cond_false, cond_true]
              all_goals
                cases a with
                | inl y_1187 =>
                  try dsimp only [cond_false, cond_true]
                  all_goals rfl
                | inr y_1188 =>
                  try dsimp only [cond_false, cond_true]
                  all_goals
                    cases y_1188 with
                    | inl y_1189 =>
                      try dsimp only [cond_false, cond_true]
                      all_goals
                        cases y_1189 with
                        | none =>
                          try dsimp only [cond_false, cond_true]
                          all_goals rfl
                        | some y_1190 =>
                          try dsimp only [cond_false, cond_true]
                          all_goals rfl
                    | inr y_1191 =>
                      try dsimp only [cond_false, cond_true]
                      all_goals rfl
        | inr y_1192 =>
          try dsimp only [cond_false, cond_true]
          all_goals rfl
noncomputable def chkVs (tab : Tb) (fs : List Ln) (θ : Th) : List AV → List AV → Bool :=
  fun e_0 e_1 => List.rec (motive := fun _ => List AV → Bool) (fun e_1 => (List.rec (motive := fun _ => Bool) true (fun x_1193 x_1194 _ => false) e_1)) (fun h_0 t_0 ih e_1 => (List.rec (motive := fun _ => Bool) false (fun a_1195 q_1196 _ => (Bool.rec (motive := fun _ => Bool) false (ih q_1196) (chkV tab fs θ h_0 a_1195))) e_1)) e_0 e_1
theorem chkVs_def (tab : Tb) (fs : List Ln) (θ : Th) (e_0 : List AV) (e_1 : List AV) : chkVs tab fs θ e_0 e_1 = (match e_0, e_1 with
  | [], [] => true
  | p :: r, a :: q => bif chkV tab fs θ p a then chkVs tab fs θ r q else false
  | _, _ => false) := by
  cases e_0 with
  | nil =>
    show (List.rec (motive := fun _ => Bool) true (fun x_1197 x_1198 _ => false) e_1) = _
    try simp only [iAddQ_eq, iMulQ_eq, iNegQ_eq, lenQ_eq, nthQ_eq, setQ_eq, appQ_eq, mapQ_eq, allQ_eq, anyQ_eq, dropQ_eq, takeQ_eq, revQ_eq, getDQ_eq, optLQ_eq, brecC]
    all_goals
      cases e_1 with
      | nil =>
        try dsimp only [cond_false, cond_true]
        all_goals rfl
      | cons y_1199 y_1200 =>
        try dsimp only [cond_false, cond_true]
        all_goals rfl
  | cons h_0 t_0 =>
    show (List.rec (motive := fun _ => Bool) false (fun a_1201 q_1202 _ => (Bool.rec (motive := fun _ => Bool) false (chkVs tab fs θ t_0 q_1202) (chkV tab fs θ h_0 a_1201))) e_1) = _
    try simp only [iAddQ_eq, iMulQ_eq, iNegQ_eq, lenQ_eq, nthQ_eq, setQ_eq, appQ_eq, mapQ_eq, allQ_eq, anyQ_eq, dropQ_eq, takeQ_eq, revQ_eq, getDQ_eq, optLQ_eq, brecC]
    all_goals
      cases e_1 with
      | nil =>
        try dsimp only [cond_false, cond_true]
        all_goals rfl
      | cons y_1203 y_1204 =>
        try dsimp only [cond_false, cond_true]
        all_goals
          cases hq_3 : (chkV tab fs θ h_0 y_1203) with
          | false =>
            try dsimp only [cond_false, cond_true]
            all_goals rfl
          | true =>
            try dsimp only [cond_false, cond_true]
            all_goals rfl
noncomputable def sgLe (tab : Tb) (fs : List Ln) (θ : Th) : Nat → List Sg → List Sg → Bool :=
  fun e_0 e_1 e_2 => Nat.rec (motive := fun _ => List Sg → List Sg → Bool) (fun e_1 e_2 => false) (fun t_0 ih e_1 e_2 => (List.rec (motive := fun _ => Bool) (List.rec (motive := fun _ => Bool) true (fun x_1207 q_1208 _ => (Sum.rec (motive := fun _ => Bool) (fun x_1209 => false) (fun x_1210 => (Prod.rec (motive := fun _ => Bool) (fun m_1211 x_1212 => (Prod.rec (motive := fun _ => Bool) (fun x_1213 x_1214 => (Bool.rec (motive := fun _ => Bool) false (ih [] q_1208) (Nat.beq m_1211 (nat_lit 0)))) x_1212)) x_1210)) x_1207)) e_2) (fun x_1205 r_1206 _ => (Sum.rec (motive := fun _ => Bool) (fun e_1215 => (List.rec (motive := fun _ => Bool) false (fun x_1217 q_1218 _ => (Sum.rec (motive := fun _ => Bool) (fun e_1219 => (Bool.rec (motive := fun _ => Bool) false (ih r_1206 q_1218) (eqL tab fs (sbL θ e_1215) e_1219))) (fun x_1220 => (Prod.rec (motive := fun _ => Bool) (fun m_1221 x_1222 => (Prod.rec (motive := fun _ => Bool) (fun lo_1223 hi_1224 => (Nat.rec (motive := fun _ => Bool) (ih ((.inl e_1215) :: r_1206) q_1218) (fun m_1225 _ => (Bool.rec (motive := fun _ => Bool) false (Bool.rec (motive := fun _ => Bool) false (ih r_1206 ((.inr (m_1225, lo_1223, hi_1224)) :: q_1218)) (eqL tab fs (sbL θ e_1215) (kL lo_1223))) (eqI lo_1223 hi_1224))) m_1221)) x_1222)) x_1220)) x_1217)) e_2)) (fun x_1216 => (Prod.rec (motive := fun _ => Bool) (fun m_1226 x_1227 => (Prod.rec (motive := fun _ => Bool) (fun lo_1228 hi_1229 => (List.rec (motive := fun _ => Bool) (Bool.rec (motive := fun _ => Bool) false (ih r_1206 []) (Nat.beq m_1226 (nat_lit 0))) (fun x_1230 q_1231 _ => (Sum.rec (motive := fun _ => Bool) (fun e_1232 => (Nat.rec (motive := fun _ => Bool) (ih r_1206 ((.inl e_1232) :: q_1231)) (fun m_1234 _ => (Bool.rec (motive := fun _ => Bool) false (ih ((.inr (m_1234, lo_1228, hi_1229)) :: r_1206) q_1231) (inF tab fs lo_1228 hi_1229 e_1232))) m_1226)) (fun x_1233 => (Prod.rec (motive := fun _ => Bool) (fun m_1235 x_1236 => (Prod.rec (motive := fun _ => Bool) (fun lo_1237 hi_1238 => (Bool.rec (motive := fun _ => Bool) false (Bool.rec (motive := fun _ => Bool) (ih ((.inr ((Nat.sub m_1226 m_1235), lo_1228, hi_1229)) :: r_1206) q_1231) (Bool.rec (motive := fun _ => Bool) (ih r_1206 ((.inr ((Nat.sub m_1235 m_1226), lo_1237, hi_1238)) :: q_1231)) (ih r_1206 q_1231) (Nat.beq m_1226 m_1235)) (Nat.ble m_1226 m_1235)) (Bool.rec (motive := fun _ => Bool) (Bool.rec (motive := fun _ => Bool) (Bool.rec (motive := fun _ => Bool) false (leI hi_1238 hi_1229) (leI lo_1228 lo_1237)) true (Nat.beq m_1226 (nat_lit 0))) true (Nat.beq m_1235 (nat_lit 0))))) x_1236)) x_1233)) x_1230)) e_2)) x_1227)) x_1216)) x_1205)) e_1)) e_0 e_1 e_2
theorem sgLe_def (tab : Tb) (fs : List Ln) (θ : Th) (e_0 : Nat) (e_1 : List Sg) (e_2 : List Sg) : sgLe tab fs θ e_0 e_1 e_2 = (match e_0, e_1, e_2 with
  | 0, _, _ => false
  | n + 1, p, a => match p, a with
    | [], [] => true
    | .inl e :: r, .inl e' :: q => bif eqL tab fs (sbL θ e) e' then sgLe tab fs θ n r q else false
    | .inl e :: r, .inr (m, lo, hi) :: q => match m with
      | 0 => sgLe tab fs θ n (.inl e :: r) q
      | m + 1 => bif eqI lo hi then (bif eqL tab fs (sbL θ e) (kL lo) then sgLe tab fs θ n r (.inr (m, lo, hi) :: q) else false) else false
    | .inr (m, lo, hi) :: r, [] => bif Nat.beq m 0 then sgLe tab fs θ n r [] else false
    | [], .inr (m, _, _) :: q => bif Nat.beq m 0 then sgLe tab fs θ n [] q else false
    | .inr (m, lo, hi) :: r, .inl e' :: q => match m with
      | 0 => sgLe tab fs θ n r (.inl e' :: q)
      | m + 1 => bif inF tab fs lo hi e' then sgLe tab fs θ n (.inr (m, lo, hi) :: r) q else false
    | .inr (m, lo, hi) :: r, .inr (m', lo', hi') :: q => bif (bif Nat.beq m' 0 then true else bif Nat.beq m 0 then true else bif leI lo lo' then leI hi' hi else false) then (bif Nat.ble m m' then (bif Nat.beq m m' then sgLe tab fs θ n r q else sgLe tab fs θ n r (.inr (Nat.sub m' m, lo', hi') :: q)) else sgLe tab fs θ n (.inr (Nat.sub m m', lo, hi) :: r) q) else false
    | _, _ => false) := by
  cases e_0 with
  | zero =>
    show false = _
    try simp only [iAddQ_eq, iMulQ_eq, iNegQ_eq, lenQ_eq, nthQ_eq, setQ_eq, appQ_eq, mapQ_eq, allQ_eq, anyQ_eq, dropQ_eq, takeQ_eq, revQ_eq, getDQ_eq, optLQ_eq, brecC]
    all_goals rfl
  | succ t_0 =>
    show (List.rec (motive := fun _ => Bool) (List.rec (motive := fun _ => Bool) true (fun x_1241 q_1242 _ => (Sum.rec (motive := fun _ => Bool) (fun x_1243 => false) (fun x_1244 => (Prod.rec (motive := fun _ => Bool) (fun m_1245 x_1246 => (Prod.rec (motive := fun _ => Bool) (fun x_1247 x_1248 => (Bool.rec (motive := fun _ => Bool) false (sgLe tab fs θ t_0 [] q_1242) (Nat.beq m_1245 (nat_lit 0)))) x_1246)) x_1244)) x_1241)) e_2) (fun x_1239 r_1240 _ => (Sum.rec (motive := fun _ => Bool) (fun e_1249 => (List.rec (motive := fun _ => Bool) false (fun x_1251 q_1252 _ => (Sum.rec (motive := fun _ => Bool) (fun e_1253 => (Bool.rec (motive := fun _ => Bool) false (sgLe tab fs θ t_0 r_1240 q_1252) (eqL tab fs (sbL θ e_1249) e_1253))) (fun x_1254 => (Prod.rec (motive := fun _ => Bool) (fun m_1255 x_1256 => (Prod.rec (motive := fun _ => Bool) (fun lo_1257 hi_1258 => (Nat.rec (motive := fun _ => Bool) (sgLe tab fs θ t_0 ((.inl e_1249) :: r_1240) q_1252) (fun m_1259 _ => (Bool.rec (motive := fun _ => Bool) false (Bool.rec (motive := fun _ => Bool) false (sgLe tab fs θ t_0 r_1240 ((.inr (m_1259, lo_1257, hi_1258)) :: q_1252)) (eqL tab fs (sbL θ e_1249) (kL lo_1257))) (eqI lo_1257 hi_1258))) m_1255)) x_1256)) x_1254)) x_1251)) e_2)) (fun x_1250 => (Prod.rec (motive := fun _ => Bool) (fun m_1260 x_1261 => (Prod.rec (motive := fun _ => Bool) (fun lo_1262 hi_1263 => (List.rec (motive := fun _ => Bool) (Bool.rec (motive := fun _ => Bool) false (sgLe tab fs θ t_0 r_1240 []) (Nat.beq m_1260 (nat_lit 0))) (fun x_1264 q_1265 _ => (Sum.rec (motive := fun _ => Bool) (fun e_1266 => (Nat.rec (motive := fun _ => Bool) (sgLe tab fs θ t_0 r_1240 ((.inl e_1266) :: q_1265)) (fun m_1268 _ => (Bool.rec (motive := fun _ => Bool) false (sgLe tab fs θ t_0 ((.inr (m_1268, lo_1262, hi_1263)) :: r_1240) q_1265) (inF tab fs lo_1262 hi_1263 e_1266))) m_1260)) (fun x_1267 => (Prod.rec (motive := fun _ => Bool) (fun m_1269 x_1270 => (Prod.rec (motive := fun _ => Bool) (fun lo_1271 hi_1272 => (Bool.rec (motive := fun _ => Bool) false (Bool.rec (motive := fun _ => Bool) (sgLe tab fs θ t_0 ((.inr ((Nat.sub m_1260 m_1269), lo_1262, hi_1263)) :: r_1240) q_1265) (Bool.rec (motive := fun _ => Bool) (sgLe tab fs θ t_0 r_1240 ((.inr ((Nat.sub m_1269 m_1260), lo_1271, hi_1272)) :: q_1265)) (sgLe tab fs θ t_0 r_1240 q_1265) (Nat.beq m_1260 m_1269)) (Nat.ble m_1260 m_1269)) (Bool.rec (motive := fun _ => Bool) (Bool.rec (motive := fun _ => Bool) (Bool.rec (motive := fun _ => Bool) false (leI hi_1272 hi_1263) (leI lo_1262 lo_1271)) true (Nat.beq m_1260 (nat_lit 0))) true (Nat.beq m_1269 (nat_lit 0))))) x_1270)) x_1267)) x_1264)) e_2)) x_1261)) x_1250)) x_1239)) e_1) = _
    try simp only [iAddQ_eq, iMulQ_eq, iNegQ_eq, lenQ_eq, nthQ_eq, setQ_eq, appQ_eq, mapQ_eq, allQ_eq, anyQ_eq, dropQ_eq, takeQ_eq, revQ_eq, getDQ_eq, optLQ_eq, brecC]
    all_goals
      cases e_1 with
      | nil =>
        try dsimp only [cond_false, cond_true]
        all_goals
          cases e_2 with
          | nil =>
            try dsimp only [cond_false, cond_true]
            all_goals rfl
          | cons y_1273 y_1274 =>
            try dsimp only [cond_false, cond_true]
            all_goals
              cases y_1273 with
              | inl y_1275 =>
                try dsimp only [cond_false, cond_true]
                all_goals rfl
              | inr y_1276 =>
                try dsimp only [cond_false, cond_true]
                all_goals
                  cases y_1276 with
                  | mk y_1277 y_1278 =>
                    try dsimp only [cond_false, cond_true]
                    all_goals
                      cases y_1278 with
                      | mk y_1279 y_1280 =>
                        try dsimp only [cond_false, cond_true]
                        all_goals
                          cases hq_6 : (Nat.beq y_1277 0) with
                          | false =>
                            try dsimp only [cond_false, cond_true]
                            all_goals rfl
                          | true =>
                            try dsimp only [cond_false, cond_true]
                            all_goals rfl
      | cons y_1281 y_1282 =>
        try dsimp only [cond_false, cond_true]
        all_goals
          cases y_1281 with
          | inl y_1283 =>
            try dsimp only [cond_false, cond_true]
            all_goals
              cases e_2 with
              | nil =>
                try dsimp only [cond_false, cond_true]
                all_goals rfl
              | cons y_1284 y_1285 =>
                try dsimp only [cond_false, cond_true]
                all_goals
                  cases y_1284 with
                  | inl y_1286 =>
                    try dsimp only [cond_false, cond_true]
                    all_goals
                      cases hq_10 : (eqL tab fs ((sbL θ y_1283)) y_1286) with
                      | false =>
                        try dsimp only [cond_false, cond_true]
                        all_goals rfl
                      | true =>
                        try dsimp only [cond_false, cond_true]
                        all_goals rfl
                  | inr y_1287 =>
                    try dsimp only [cond_false, cond_true]
                    all_goals
                      cases y_1287 with
                      | mk y_1288 y_1289 =>
                        try dsimp only [cond_false, cond_true]
                        all_goals
                          cases y_1289 with
                          | mk y_1290 y_1291 =>
                            try dsimp only [cond_false, cond_true]
                            all_goals
                              cases y_1288 with
                              | zero =>
                                try dsimp only [cond_false, cond_true]
                                all_goals rfl
                              | succ y_1292 =>
                                try dsimp only [cond_false, cond_true]
                                all_goals
                                  cases hq_14 : (eqI y_1290 y_1291) with
                                  | false =>
                                    try dsimp only [cond_false, cond_true]
                                    all_goals rfl
                                  | true =>
                                    try dsimp only [cond_false, cond_true]
                                    all_goals
                                      cases hq_15 : (eqL tab fs ((sbL θ y_1283)) ((kL y_1290))) with
                                      | false =>
                                        try dsimp only [cond_false, cond_true]
                                        all_goals rfl
                                      | true =>
                                        try dsimp only [cond_false, cond_true]
                                        all_goals rfl
          | inr y_1293 =>
            try dsimp only [cond_false, cond_true]
            all_goals
              cases y_1293 with
              | mk y_1294 y_1295 =>
                try dsimp only [cond_false, cond_true]
                all_goals
                  cases y_1295 with
                  | mk y_1296 y_1297 =>
                    try dsimp only [cond_false, cond_true]
                    all_goals
                      cases e_2 with
                      | nil =>
                        try dsimp only [cond_false, cond_true]
                        all_goals
                          cases hq_19 : (Nat.beq y_1294 0) with
                          | false =>
                            try dsimp only [cond_false, cond_true]
                            all_goals rfl
                          | true =>
                            try dsimp only [cond_false, cond_true]
                            all_goals rfl
                      | cons y_1298 y_1299 =>
                        try dsimp only [cond_false, cond_true]
                        all_goals
                          cases y_1298 with
                          | inl y_1300 =>
                            try dsimp only [cond_false, cond_true]
                            all_goals
                              cases y_1294 with
                              | zero =>
                                try dsimp only [cond_false, cond_true]
                                all_goals rfl
                              | succ y_1301 =>
                                try dsimp only [cond_false, cond_true]
                                all_goals
                                  cases hq_22 : (inF tab fs y_1296 y_1297 y_1300) with
                                  | false =>
                                    try dsimp only [cond_false, cond_true]
                                    all_goals rfl
                                  | true =>
                                    try dsimp only [cond_false, cond_true]
                                    all_goals rfl
                          | inr y_1302 =>
                            try dsimp only [cond_false, cond_true]
                            all_goals
                              cases y_1302 with
                              | mk y_1303 y_1304 =>
                                try dsimp only [cond_false, cond_true]
                                all_goals
                                  cases y_1304 with
                                  | mk y_1305 y_1306 =>
                                    try dsimp only [cond_false, cond_true]
                                    all_goals
                                      cases hq_25 : ((bif (Nat.beq y_1303 0) then true else (bif (Nat.beq y_1294 0) then true else (bif (leI y_1296 y_1305) then (leI y_1306 y_1297) else false)))) with
                                      | false =>
                                        try dsimp only [cond_false, cond_true]
                                        all_goals rfl
                                      | true =>
                                        try dsimp only [cond_false, cond_true]
                                        all_goals
                                          cases hq_26 : (Nat.ble y_1294 y_1303) with
                                          | false =>
                                            try dsimp only [cond_false, cond_true]
                                            all_goals rfl
                                          | true =>
                                            try dsimp only [cond_false, cond_true]
                                            all_goals
                                              cases hq_27 : (Nat.beq y_1294 y_1303) with
                                              | false =>
                                                try dsimp only [cond_false, cond_true]
                                                all_goals rfl
                                              | true =>
                                                try dsimp only [cond_false, cond_true]
                                                all_goals rfl
noncomputable def eqO  : List (Option Nat) → List (Option Nat) → Bool :=
  fun e_0 e_1 => List.rec (motive := fun _ => List (Option Nat) → Bool) (fun e_1 => (List.rec (motive := fun _ => Bool) true (fun x_1307 x_1308 _ => false) e_1)) (fun h_0 t_0 ih e_1 => (Option.rec (motive := fun _ => Bool) (List.rec (motive := fun _ => Bool) false (fun x_1310 q_1311 _ => (Option.rec (motive := fun _ => Bool) (ih q_1311) (fun x_1312 => false) x_1310)) e_1) (fun i_1309 => (List.rec (motive := fun _ => Bool) false (fun x_1313 q_1314 _ => (Option.rec (motive := fun _ => Bool) false (fun j_1315 => (Bool.rec (motive := fun _ => Bool) false (ih q_1314) (Nat.beq i_1309 j_1315))) x_1313)) e_1)) h_0)) e_0 e_1
theorem eqO_def  (e_0 : List (Option Nat)) (e_1 : List (Option Nat)) : eqO  e_0 e_1 = (match e_0, e_1 with
  | [], [] => true
  | some i :: r, some j :: q => bif Nat.beq i j then eqO r q else false
  | none :: r, none :: q => eqO r q
  | _, _ => false) := by
  cases e_0 with
  | nil =>
    show (List.rec (motive := fun _ => Bool) true (fun x_1316 x_1317 _ => false) e_1) = _
    try simp only [iAddQ_eq, iMulQ_eq, iNegQ_eq, lenQ_eq, nthQ_eq, setQ_eq, appQ_eq, mapQ_eq, allQ_eq, anyQ_eq, dropQ_eq, takeQ_eq, revQ_eq, getDQ_eq, optLQ_eq, brecC]
    all_goals
      cases e_1 with
      | nil =>
        try dsimp only [cond_false, cond_true]
        all_goals rfl
      | cons y_1318 y_1319 =>
        try dsimp only [cond_false, cond_true]
        all_goals rfl
  | cons h_0 t_0 =>
    show (Option.rec (motive := fun _ => Bool) (List.rec (motive := fun _ => Bool) false (fun x_1321 q_1322 _ => (Option.rec (motive := fun _ => Bool) (eqO t_0 q_1322) (fun x_1323 => false) x_1321)) e_1) (fun i_1320 => (List.rec (motive := fun _ => Bool) false (fun x_1324 q_1325 _ => (Option.rec (motive := fun _ => Bool) false (fun j_1326 => (Bool.rec (motive := fun _ => Bool) false (eqO t_0 q_1325) (Nat.beq i_1320 j_1326))) x_1324)) e_1)) h_0) = _
    try simp only [iAddQ_eq, iMulQ_eq, iNegQ_eq, lenQ_eq, nthQ_eq, setQ_eq, appQ_eq, mapQ_eq, allQ_eq, anyQ_eq, dropQ_eq, takeQ_eq, revQ_eq, getDQ_eq, optLQ_eq, brecC]
    all_goals
      cases h_0 with
      | none =>
        try dsimp only [cond_false, cond_true]
        all_goals
          cases e_1 with
          | nil =>
            try dsimp only [cond_false, cond_true]
            all_goals rfl
          | cons y_1327 y_1328 =>
            try dsimp only [cond_false, cond_true]
            all_goals
              cases y_1327 with
              | none =>
                try dsimp only [cond_false, cond_true]
                all_goals rfl
              | some y_1329 =>
                try dsimp only [cond_false, cond_true]
                all_goals rfl
      | some y_1330 =>
        try dsimp only [cond_false, cond_true]
        all_goals
          cases e_1 with
          | nil =>
            try dsimp only [cond_false, cond_true]
            all_goals rfl
          | cons y_1331 y_1332 =>
            try dsimp only [cond_false, cond_true]
            all_goals
              cases y_1331 with
              | none =>
                try dsimp only [cond_false, cond_true]
                all_goals rfl
              | some y_1333 =>
                try dsimp only [cond_false, cond_true]
                all_goals
                  cases hq_7 : (Nat.beq y_1330 y_1333) with
                  | false =>
                    try dsimp only [cond_false, cond_true]
                    all_goals rfl
                  | true =>
                    try dsimp only [cond_false, cond_true]
                    all_goals rfl
noncomputable def eqN  : List Nat → List Nat → Bool :=
  fun e_0 e_1 => List.rec (motive := fun _ => List Nat → Bool) (fun e_1 => (List.rec (motive := fun _ => Bool) true (fun x_1334 x_1335 _ => false) e_1)) (fun h_0 t_0 ih e_1 => (List.rec (motive := fun _ => Bool) false (fun j_1336 q_1337 _ => (Bool.rec (motive := fun _ => Bool) false (ih q_1337) (Nat.beq h_0 j_1336))) e_1)) e_0 e_1
theorem eqN_def  (e_0 : List Nat) (e_1 : List Nat) : eqN  e_0 e_1 = (match e_0, e_1 with
  | [], [] => true
  | i :: r, j :: q => bif Nat.beq i j then eqN r q else false
  | _, _ => false) := by
  cases e_0 with
  | nil =>
    show (List.rec (motive := fun _ => Bool) true (fun x_1338 x_1339 _ => false) e_1) = _
    try simp only [iAddQ_eq, iMulQ_eq, iNegQ_eq, lenQ_eq, nthQ_eq, setQ_eq, appQ_eq, mapQ_eq, allQ_eq, anyQ_eq, dropQ_eq, takeQ_eq, revQ_eq, getDQ_eq, optLQ_eq, brecC]
    all_goals
      cases e_1 with
      | nil =>
        try dsimp only [cond_false, cond_true]
        all_goals rfl
      | cons y_1340 y_1341 =>
        try dsimp only [cond_false, cond_true]
        all_goals rfl
  | cons h_0 t_0 =>
    show (List.rec (motive := fun _ => Bool) false (fun j_1342 q_1343 _ => (Bool.rec (motive := fun _ => Bool) false (eqN t_0 q_1343) (Nat.beq h_0 j_1342))) e_1) = _
    try simp only [iAddQ_eq, iMulQ_eq, iNegQ_eq, lenQ_eq, nthQ_eq, setQ_eq, appQ_eq, mapQ_eq, allQ_eq, anyQ_eq, dropQ_eq, takeQ_eq, revQ_eq, getDQ_eq, optLQ_eq, brecC]
    all_goals
      cases e_1 with
      | nil =>
        try dsimp only [cond_false, cond_true]
        all_goals rfl
      | cons y_1344 y_1345 =>
        try dsimp only [cond_false, cond_true]
        all_goals
          cases hq_3 : (Nat.beq h_0 y_1344) with
          | false =>
            try dsimp only [cond_false, cond_true]
            all_goals rfl
          | true =>
            try dsimp only [cond_false, cond_true]
            all_goals rfl
noncomputable def conLe (tab : Tb) (fs : List Ln) (θ : Th) (p a : List Sg) : Bool :=
  (List.rec (motive := fun _ => Bool) false (fun x_1346 x_1347 _ => (Sum.rec (motive := fun _ => Bool) (fun e_1348 => (List.rec (motive := fun _ => Bool) (List.rec (motive := fun _ => Bool) false (fun x_1352 x_1353 _ => (Sum.rec (motive := fun _ => Bool) (fun e_1354 => (List.rec (motive := fun _ => Bool) (eqL tab fs (sbL θ e_1348) e_1354) (fun x_1356 x_1357 _ => false) x_1353)) (fun x_1355 => false) x_1352)) a) (fun x_1350 x_1351 _ => false) x_1347)) (fun x_1349 => false) x_1346)) p)
theorem conLe_def (tab : Tb) (fs : List Ln) (θ : Th) (p a : List Sg) : conLe tab fs θ p a = (match p, a with
  | [.inl e], [.inl e'] => eqL tab fs (sbL θ e) e'
  | _, _ => false) := by
  show (List.rec (motive := fun _ => Bool) false (fun x_1346 x_1347 _ => (Sum.rec (motive := fun _ => Bool) (fun e_1348 => (List.rec (motive := fun _ => Bool) (List.rec (motive := fun _ => Bool) false (fun x_1352 x_1353 _ => (Sum.rec (motive := fun _ => Bool) (fun e_1354 => (List.rec (motive := fun _ => Bool) (eqL tab fs (sbL θ e_1348) e_1354) (fun x_1356 x_1357 _ => false) x_1353)) (fun x_1355 => false) x_1352)) a) (fun x_1350 x_1351 _ => false) x_1347)) (fun x_1349 => false) x_1346)) p) = _
  all_goals
    cases p with
    | nil =>
      try dsimp only [cond_false, cond_true]
      all_goals rfl
    | cons y_1358 y_1359 =>
      try dsimp only [cond_false, cond_true]
      all_goals
        cases y_1358 with
        | inl y_1360 =>
          try dsimp only [cond_false, cond_true]
          all_goals
            cases y_1359 with
            | nil =>
              try dsimp only [cond_false, cond_true]
              all_goals
                cases a with
                | nil =>
                  try dsimp only [cond_false, cond_true]
                  all_goals rfl
                | cons y_1361 y_1362 =>
                  try dsimp only [cond_false, cond_true]
                  all_goals
                    cases y_1361 with
                    | inl y_1363 =>
                      try dsimp only [cond_false, cond_true]
                      all_goals
                        cases y_1362 with
                        | nil =>
                          try dsimp only [cond_false, cond_true]
                          all_goals rfl
                        | cons y_1364 y_1365 =>
                          try dsimp only [cond_false, cond_true]
                          all_goals rfl
                    | inr y_1366 =>
                      try dsimp only [cond_false, cond_true]
                      all_goals rfl
            | cons y_1367 y_1368 =>
              try dsimp only [cond_false, cond_true]
              all_goals rfl
        | inr y_1369 =>
          try dsimp only [cond_false, cond_true]
          all_goals rfl
noncomputable def chkC (tab : Tb) (fs : List Ln) (θ : Th) (p a : AC) : Bool :=
  (Sum.rec (motive := fun _ => Bool) (fun x_1370 => (Prod.rec (motive := fun _ => Bool) (fun c_1372 l_1373 => (Sum.rec (motive := fun _ => Bool) (fun x_1374 => (Prod.rec (motive := fun _ => Bool) (fun c_1376 l_1377 => (Bool.rec (motive := fun _ => Bool) false (chkVs tab fs θ l_1373 l_1377) (Nat.beq c_1372 c_1376))) x_1374)) (fun x_1375 => false) a)) x_1370)) (fun x_1371 => (Prod.rec (motive := fun _ => Bool) (fun k_1378 x_1379 => (Sum.rec (motive := fun _ => Bool) (fun s_1380 => (Sum.rec (motive := fun _ => Bool) (fun x_1382 => false) (fun x_1383 => (Prod.rec (motive := fun _ => Bool) (fun k_1384 x_1385 => (Sum.rec (motive := fun _ => Bool) (fun s_1386 => (Bool.rec (motive := fun _ => Bool) false (Bool.rec (motive := fun _ => Bool) (conLe tab fs θ s_1380 s_1386) (sgLe tab fs θ (nat_lit 600) s_1380 s_1386) (Nat.blt k_1378 (nat_lit 100))) (Nat.beq k_1378 k_1384))) (fun x_1387 => false) x_1385)) x_1383)) a)) (fun x_1381 => (Sum.rec (motive := fun _ => Bool) (fun m_1388 => (Sum.rec (motive := fun _ => Bool) (fun x_1390 => false) (fun x_1391 => (Prod.rec (motive := fun _ => Bool) (fun k_1392 x_1393 => (Sum.rec (motive := fun _ => Bool) (fun x_1394 => false) (fun x_1395 => (Sum.rec (motive := fun _ => Bool) (fun m_1396 => (Bool.rec (motive := fun _ => Bool) false (Bool.rec (motive := fun _ => Bool) (Bool.rec (motive := fun _ => Bool) false (Nat.beq m_1396 (Nat.add zB m_1388)) (Nat.blt m_1388 zB)) true (Nat.beq m_1388 m_1396)) (Nat.beq k_1378 k_1392))) (fun x_1397 => false) x_1395)) x_1393)) x_1391)) a)) (fun l_1389 => (Sum.rec (motive := fun _ => Bool) (fun x_1398 => false) (fun x_1399 => (Prod.rec (motive := fun _ => Bool) (fun k_1400 x_1401 => (Sum.rec (motive := fun _ => Bool) (fun x_1402 => false) (fun x_1403 => (Sum.rec (motive := fun _ => Bool) (fun x_1404 => false) (fun l_1405 => (Bool.rec (motive := fun _ => Bool) false (eqO l_1389 l_1405) (Nat.beq k_1378 k_1400))) x_1403)) x_1401)) x_1399)) a)) x_1381)) x_1379)) x_1371)) p)
theorem chkC_def (tab : Tb) (fs : List Ln) (θ : Th) (p a : AC) : chkC tab fs θ p a = (match p, a with
  | .inl (c, l), .inl (c', l') => bif Nat.beq c c' then chkVs tab fs θ l l' else false
  | .inr (k, .inl s), .inr (k', .inl s') => bif Nat.beq k k' then (bif Nat.blt k 100 then sgLe tab fs θ 600 s s' else conLe tab fs θ s s') else false
  | .inr (k, .inr (.inl m)), .inr (k', .inr (.inl m')) => bif Nat.beq k k' then (bif Nat.beq m m' then true else bif Nat.blt m zB then Nat.beq m' (Nat.add zB m) else false) else false
  | .inr (k, .inr (.inr l)), .inr (k', .inr (.inr l')) => bif Nat.beq k k' then eqO l l' else false
  | _, _ => false) := by
  show (Sum.rec (motive := fun _ => Bool) (fun x_1370 => (Prod.rec (motive := fun _ => Bool) (fun c_1372 l_1373 => (Sum.rec (motive := fun _ => Bool) (fun x_1374 => (Prod.rec (motive := fun _ => Bool) (fun c_1376 l_1377 => (Bool.rec (motive := fun _ => Bool) false (chkVs tab fs θ l_1373 l_1377) (Nat.beq c_1372 c_1376))) x_1374)) (fun x_1375 => false) a)) x_1370)) (fun x_1371 => (Prod.rec (motive := fun _ => Bool) (fun k_1378 x_1379 => (Sum.rec (motive := fun _ => Bool) (fun s_1380 => (Sum.rec (motive := fun _ => Bool) (fun x_1382 => false) (fun x_1383 => (Prod.rec (motive := fun _ => Bool) (fun k_1384 x_1385 => (Sum.rec (motive := fun _ => Bool) (fun s_1386 => (Bool.rec (motive := fun _ => Bool) false (Bool.rec (motive := fun _ => Bool) (conLe tab fs θ s_1380 s_1386) (sgLe tab fs θ (nat_lit 600) s_1380 s_1386) (Nat.blt k_1378 (nat_lit 100))) (Nat.beq k_1378 k_1384))) (fun x_1387 => false) x_1385)) x_1383)) a)) (fun x_1381 => (Sum.rec (motive := fun _ => Bool) (fun m_1388 => (Sum.rec (motive := fun _ => Bool) (fun x_1390 => false) (fun x_1391 => (Prod.rec (motive := fun _ => Bool) (fun k_1392 x_1393 => (Sum.rec (motive := fun _ => Bool) (fun x_1394 => false) (fun x_1395 => (Sum.rec (motive := fun _ => Bool) (fun m_1396 => (Bool.rec (motive := fun _ => Bool) false (Bool.rec (motive := fun _ => Bool) (Bool.rec (motive := fun _ => Bool) false (Nat.beq m_1396 (Nat.add zB m_1388)) (Nat.blt m_1388 zB)) true (Nat.beq m_1388 m_1396)) (Nat.beq k_1378 k_1392))) (fun x_1397 => false) x_1395)) x_1393)) x_1391)) a)) (fun l_1389 => (Sum.rec (motive := fun _ => Bool) (fun x_1398 => false) (fun x_1399 => (Prod.rec (motive := fun _ => Bool) (fun k_1400 x_1401 => (Sum.rec (motive := fun _ => Bool) (fun x_1402 => false) (fun x_1403 => (Sum.rec (motive := fun _ => Bool) (fun x_1404 => false) (fun l_1405 => (Bool.rec (motive := fun _ => Bool) false (eqO l_1389 l_1405) (Nat.beq k_1378 k_1400))) x_1403)) x_1401)) x_1399)) a)) x_1381)) x_1379)) x_1371)) p) = _
  try simp only [iAddQ_eq, iMulQ_eq, iNegQ_eq, lenQ_eq, nthQ_eq, setQ_eq, appQ_eq, mapQ_eq, allQ_eq, anyQ_eq, dropQ_eq, takeQ_eq, revQ_eq, getDQ_eq, optLQ_eq, brecC]
  all_goals
    cases p with
    | inl y_1406 =>
      try dsimp only [cond_false, cond_true]
      all_goals
        cases y_1406 with
        | mk y_1407 y_1408 =>
          try dsimp only [cond_false, cond_true]
          all_goals
            cases a with
            | inl y_1409 =>
              try dsimp only [cond_false, cond_true]
              all_goals
                cases y_1409 with
                | mk y_1410 y_1411 =>
                  try dsimp only [cond_false, cond_true]
                  all_goals
                    cases hq_5 : (Nat.beq y_1407 y_1410) with
                    | false =>
                      try dsimp only [cond_false, cond_true]
                      all_goals rfl
                    | true =>
                      try dsimp only [cond_false, cond_true]
                      all_goals rfl
            | inr y_1412 =>
              try dsimp only [cond_false, cond_true]
              all_goals rfl
    | inr y_1413 =>
      try dsimp only [cond_false, cond_true]
      all_goals
        cases y_1413 with
        | mk y_1414 y_1415 =>
          try dsimp only [cond_false, cond_true]
          all_goals
            cases y_1415 with
            | inl y_1416 =>
              try dsimp only [cond_false, cond_true]
              all_goals
                cases a with
                | inl y_1417 =>
                  try dsimp only [cond_false, cond_true]
                  all_goals rfl
                | inr y_1418 =>
                  try dsimp only [cond_false, cond_true]
                  all_goals
                    cases y_1418 with
                    | mk y_1419 y_1420 =>
                      try dsimp only [cond_false, cond_true]
                      all_goals
                        cases y_1420 with
                        | inl y_1421 =>
                          try dsimp only [cond_false, cond_true]
                          all_goals
                            cases hq_11 : (Nat.beq y_1414 y_1419) with
                            | false =>
                              try dsimp only [cond_false, cond_true]
                              all_goals rfl
                            | true =>
                              try dsimp only [cond_false, cond_true]
                              all_goals
                                cases hq_12 : (Nat.blt y_1414 100) with
                                | false =>
                                  try dsimp only [cond_false, cond_true]
                                  all_goals rfl
                                | true =>
                                  try dsimp only [cond_false, cond_true]
                                  all_goals rfl
                        | inr y_1422 =>
                          try dsimp only [cond_false, cond_true]
                          all_goals rfl
            | inr y_1423 =>
              try dsimp only [cond_false, cond_true]
              all_goals
                cases y_1423 with
                | inl y_1424 =>
                  try dsimp only [cond_false, cond_true]
                  all_goals
                    cases a with
                    | inl y_1425 =>
                      try dsimp only [cond_false, cond_true]
                      all_goals rfl
                    | inr y_1426 =>
                      try dsimp only [cond_false, cond_true]
                      all_goals
                        cases y_1426 with
                        | mk y_1427 y_1428 =>
                          try dsimp only [cond_false, cond_true]
                          all_goals
                            cases y_1428 with
                            | inl y_1429 =>
                              try dsimp only [cond_false, cond_true]
                              all_goals rfl
                            | inr y_1430 =>
                              try dsimp only [cond_false, cond_true]
                              all_goals
                                cases y_1430 with
                                | inl y_1431 =>
                                  try dsimp only [cond_false, cond_true]
                                  all_goals
                                    cases hq_18 : (Nat.beq y_1414 y_1427) with
                                    | false =>
                                      try dsimp only [cond_false, cond_true]
                                      all_goals rfl
                                    | true =>
                                      try dsimp only [cond_false, cond_true]
                                      all_goals
                                        cases hq_19 : (Nat.beq y_1424 y_1431) with
                                        | false =>
                                          try dsimp only [cond_false, cond_true]
                                          all_goals
                                            cases hq_20 : (Nat.blt y_1424 zB) with
                                            | false =>
                                              try dsimp only [cond_false, cond_true]
                                              all_goals rfl
                                            | true =>
                                              try dsimp only [cond_false, cond_true]
                                              all_goals rfl
                                        | true =>
                                          try dsimp only [cond_false, cond_true]
                                          all_goals rfl
                                | inr y_1432 =>
                                  try dsimp only [cond_false, cond_true]
                                  all_goals rfl
                | inr y_1433 =>
                  try dsimp only [cond_false, cond_true]
                  all_goals
                    cases a with
                    | inl y_1434 =>
                      try dsimp only [cond_false, cond_true]
                      all_goals rfl
                    | inr y_1435 =>
                      try dsimp only [cond_false, cond_true]
                      all_goals
                        cases y_1435 with
                        | mk y_1436 y_1437 =>
                          try dsimp only [cond_false, cond_true]
                          all_goals
                            cases y_1437 with
                            | inl y_1438 =>
                              try dsimp only [cond_false, cond_true]
                              all_goals rfl
                            | inr y_1439 =>
                              try dsimp only [cond_false, cond_true]
                              all_goals
                                cases y_1439 with
                                | inl y_1440 =>
                                  try dsimp only [cond_false, cond_true]
                                  all_goals rfl
                                | inr y_1441 =>
                                  try dsimp only [cond_false, cond_true]
                                  all_goals
                                    cases hq_25 : (Nat.beq y_1414 y_1436) with
                                    | false =>
                                      try dsimp only [cond_false, cond_true]
                                      all_goals rfl
                                    | true =>
                                      try dsimp only [cond_false, cond_true]
                                      all_goals rfl
noncomputable def chkH (tab : Tb) (fs : List Ln) (θ : Th) : AH → AH → Bool :=
  fun e_0 e_1 => List.rec (motive := fun _ => AH → Bool) (fun e_1 => (List.rec (motive := fun _ => Bool) true (fun x_1442 x_1443 _ => false) e_1)) (fun h_0 t_0 ih e_1 => (List.rec (motive := fun _ => Bool) false (fun a_1444 q_1445 _ => (Bool.rec (motive := fun _ => Bool) false (ih q_1445) (chkC tab fs θ h_0 a_1444))) e_1)) e_0 e_1
theorem chkH_def (tab : Tb) (fs : List Ln) (θ : Th) (e_0 : AH) (e_1 : AH) : chkH tab fs θ e_0 e_1 = (match e_0, e_1 with
  | [], [] => true
  | p :: r, a :: q => bif chkC tab fs θ p a then chkH tab fs θ r q else false
  | _, _ => false) := by
  cases e_0 with
  | nil =>
    show (List.rec (motive := fun _ => Bool) true (fun x_1446 x_1447 _ => false) e_1) = _
    try simp only [iAddQ_eq, iMulQ_eq, iNegQ_eq, lenQ_eq, nthQ_eq, setQ_eq, appQ_eq, mapQ_eq, allQ_eq, anyQ_eq, dropQ_eq, takeQ_eq, revQ_eq, getDQ_eq, optLQ_eq, brecC]
    all_goals
      cases e_1 with
      | nil =>
        try dsimp only [cond_false, cond_true]
        all_goals rfl
      | cons y_1448 y_1449 =>
        try dsimp only [cond_false, cond_true]
        all_goals rfl
  | cons h_0 t_0 =>
    show (List.rec (motive := fun _ => Bool) false (fun a_1450 q_1451 _ => (Bool.rec (motive := fun _ => Bool) false (chkH tab fs θ t_0 q_1451) (chkC tab fs θ h_0 a_1450))) e_1) = _
    try simp only [iAddQ_eq, iMulQ_eq, iNegQ_eq, lenQ_eq, nthQ_eq, setQ_eq, appQ_eq, mapQ_eq, allQ_eq, anyQ_eq, dropQ_eq, takeQ_eq, revQ_eq, getDQ_eq, optLQ_eq, brecC]
    all_goals
      cases e_1 with
      | nil =>
        try dsimp only [cond_false, cond_true]
        all_goals rfl
      | cons y_1452 y_1453 =>
        try dsimp only [cond_false, cond_true]
        all_goals
          cases hq_3 : (chkC tab fs θ h_0 y_1452) with
          | false =>
            try dsimp only [cond_false, cond_true]
            all_goals rfl
          | true =>
            try dsimp only [cond_false, cond_true]
            all_goals rfl
noncomputable def uniP1 (tab : Tb) (fs : List Ln) (θ : Un) (p : PD) : List PD → Un :=
  fun e_0 => List.rec (motive := fun _ => Un) θ (fun h_0 t_0 ih => (Bool.rec (motive := fun _ => Un) (ih) (uniN θ p.2.2 h_0.2.2) (Bool.rec (motive := fun _ => Bool) false (Bool.rec (motive := fun _ => Bool) false (okNums tab fs θ p.2.2 h_0.2.2) (eqN p.2.1 h_0.2.1)) (Nat.beq p.1 h_0.1)))) e_0 
theorem uniP1_def (tab : Tb) (fs : List Ln) (θ : Un) (p : PD) (e_0 : List PD) : uniP1 tab fs θ p e_0 = (match e_0 with
  | [] => θ
  | q :: r => bif (bif Nat.beq p.1 q.1 then (bif eqN p.2.1 q.2.1 then okNums tab fs θ p.2.2 q.2.2 else false) else false) then uniN θ p.2.2 q.2.2 else uniP1 tab fs θ p r) := by
  cases e_0 with
  | nil =>
    show θ = _
    try simp only [iAddQ_eq, iMulQ_eq, iNegQ_eq, lenQ_eq, nthQ_eq, setQ_eq, appQ_eq, mapQ_eq, allQ_eq, anyQ_eq, dropQ_eq, takeQ_eq, revQ_eq, getDQ_eq, optLQ_eq, brecC]
    all_goals rfl
  | cons h_0 t_0 =>
    show (Bool.rec (motive := fun _ => Un) (uniP1 tab fs θ p t_0) (uniN θ p.2.2 h_0.2.2) (Bool.rec (motive := fun _ => Bool) false (Bool.rec (motive := fun _ => Bool) false (okNums tab fs θ p.2.2 h_0.2.2) (eqN p.2.1 h_0.2.1)) (Nat.beq p.1 h_0.1))) = _
    try simp only [iAddQ_eq, iMulQ_eq, iNegQ_eq, lenQ_eq, nthQ_eq, setQ_eq, appQ_eq, mapQ_eq, allQ_eq, anyQ_eq, dropQ_eq, takeQ_eq, revQ_eq, getDQ_eq, optLQ_eq, brecC]
    all_goals
      cases hq_1 : ((bif (Nat.beq p.1 h_0.1) then ((bif (eqN p.2.1 h_0.2.1) then (okNums tab fs θ p.2.2 h_0.2.2) else false)) else false)) with
      | false =>
        try dsimp only [cond_false, cond_true]
        all_goals rfl
      | true =>
        try dsimp only [cond_false, cond_true]
        all_goals rfl
noncomputable def uniP (tab : Tb) (fs : List Ln) (a : List PD) : Un → List PD → Un :=
  fun θ e_0 => List.rec (motive := fun _ => Un → Un) (fun θ => θ) (fun h_0 t_0 ih θ => (Prod.rec (motive := fun _ => Un) (fun k_1454 x_1455 => (Prod.rec (motive := fun _ => Un) (fun l_1456 x_1457 => (List.rec (motive := fun _ => Un) (ih θ) (fun x_1458 x_1459 _ => (ih (uniP1 tab fs θ h_0 a))) x_1457)) x_1455)) h_0)) e_0 θ
theorem uniP_def (tab : Tb) (fs : List Ln) (a : List PD) (θ : Un) (e_0 : List PD) : uniP tab fs a θ e_0 = (match e_0 with
  | [] => θ
  | (k, l, []) :: r => uniP tab fs a θ r
  | p :: r => uniP tab fs a (uniP1 tab fs θ p a) r) := by
  cases e_0 with
  | nil =>
    show θ = _
    try simp only [iAddQ_eq, iMulQ_eq, iNegQ_eq, lenQ_eq, nthQ_eq, setQ_eq, appQ_eq, mapQ_eq, allQ_eq, anyQ_eq, dropQ_eq, takeQ_eq, revQ_eq, getDQ_eq, optLQ_eq, brecC]
    all_goals rfl
  | cons h_0 t_0 =>
    show (Prod.rec (motive := fun _ => Un) (fun k_1460 x_1461 => (Prod.rec (motive := fun _ => Un) (fun l_1462 x_1463 => (List.rec (motive := fun _ => Un) (uniP tab fs a θ t_0) (fun x_1464 x_1465 _ => (uniP tab fs a (uniP1 tab fs θ h_0 a) t_0)) x_1463)) x_1461)) h_0) = _
    try simp only [iAddQ_eq, iMulQ_eq, iNegQ_eq, lenQ_eq, nthQ_eq, setQ_eq, appQ_eq, mapQ_eq, allQ_eq, anyQ_eq, dropQ_eq, takeQ_eq, revQ_eq, getDQ_eq, optLQ_eq, brecC]
    all_goals
      cases h_0 with
      | mk y_1466 y_1467 =>
        try dsimp only [cond_false, cond_true]
        all_goals
          cases y_1467 with
          | mk y_1468 y_1469 =>
            try dsimp only [cond_false, cond_true]
            all_goals
              cases y_1469 with
              | nil =>
                try dsimp only [cond_false, cond_true]
                all_goals rfl
              | cons y_1470 y_1471 =>
                try dsimp only [cond_false, cond_true]
                all_goals rfl
noncomputable def chkN (tab : Tb) (fs : List Ln) (θ : Th) : List Ln → List Ln → Bool :=
  fun e_0 e_1 => List.rec (motive := fun _ => List Ln → Bool) (fun e_1 => (List.rec (motive := fun _ => Bool) true (fun x_1472 x_1473 _ => false) e_1)) (fun h_0 t_0 ih e_1 => (List.rec (motive := fun _ => Bool) false (fun a_1474 q_1475 _ => (Bool.rec (motive := fun _ => Bool) false (ih q_1475) (eqL tab fs (sbL θ h_0) a_1474))) e_1)) e_0 e_1
theorem chkN_def (tab : Tb) (fs : List Ln) (θ : Th) (e_0 : List Ln) (e_1 : List Ln) : chkN tab fs θ e_0 e_1 = (match e_0, e_1 with
  | [], [] => true
  | p :: r, a :: q => bif eqL tab fs (sbL θ p) a then chkN tab fs θ r q else false
  | _, _ => false) := by
  cases e_0 with
  | nil =>
    show (List.rec (motive := fun _ => Bool) true (fun x_1476 x_1477 _ => false) e_1) = _
    try simp only [iAddQ_eq, iMulQ_eq, iNegQ_eq, lenQ_eq, nthQ_eq, setQ_eq, appQ_eq, mapQ_eq, allQ_eq, anyQ_eq, dropQ_eq, takeQ_eq, revQ_eq, getDQ_eq, optLQ_eq, brecC]
    all_goals
      cases e_1 with
      | nil =>
        try dsimp only [cond_false, cond_true]
        all_goals rfl
      | cons y_1478 y_1479 =>
        try dsimp only [cond_false, cond_true]
        all_goals rfl
  | cons h_0 t_0 =>
    show (List.rec (motive := fun _ => Bool) false (fun a_1480 q_1481 _ => (Bool.rec (motive := fun _ => Bool) false (chkN tab fs θ t_0 q_1481) (eqL tab fs (sbL θ h_0) a_1480))) e_1) = _
    try simp only [iAddQ_eq, iMulQ_eq, iNegQ_eq, lenQ_eq, nthQ_eq, setQ_eq, appQ_eq, mapQ_eq, allQ_eq, anyQ_eq, dropQ_eq, takeQ_eq, revQ_eq, getDQ_eq, optLQ_eq, brecC]
    all_goals
      cases e_1 with
      | nil =>
        try dsimp only [cond_false, cond_true]
        all_goals rfl
      | cons y_1482 y_1483 =>
        try dsimp only [cond_false, cond_true]
        all_goals
          cases hq_3 : (eqL tab fs ((sbL θ h_0)) y_1482) with
          | false =>
            try dsimp only [cond_false, cond_true]
            all_goals rfl
          | true =>
            try dsimp only [cond_false, cond_true]
            all_goals rfl
noncomputable def hasP (tab : Tb) (fs : List Ln) (θ : Th) (p : PD) : List PD → Bool :=
  fun e_0 => List.rec (motive := fun _ => Bool) false (fun h_0 t_0 ih => (Bool.rec (motive := fun _ => Bool) (ih) true (Bool.rec (motive := fun _ => Bool) false (Bool.rec (motive := fun _ => Bool) false (chkN tab fs θ p.2.2 h_0.2.2) (eqN p.2.1 h_0.2.1)) (Nat.beq p.1 h_0.1)))) e_0 
theorem hasP_def (tab : Tb) (fs : List Ln) (θ : Th) (p : PD) (e_0 : List PD) : hasP tab fs θ p e_0 = (match e_0 with
  | [] => false
  | q :: r => bif (bif Nat.beq p.1 q.1 then (bif eqN p.2.1 q.2.1 then chkN tab fs θ p.2.2 q.2.2 else false) else false) then true else hasP tab fs θ p r) := by
  cases e_0 with
  | nil =>
    show false = _
    try simp only [iAddQ_eq, iMulQ_eq, iNegQ_eq, lenQ_eq, nthQ_eq, setQ_eq, appQ_eq, mapQ_eq, allQ_eq, anyQ_eq, dropQ_eq, takeQ_eq, revQ_eq, getDQ_eq, optLQ_eq, brecC]
    all_goals rfl
  | cons h_0 t_0 =>
    show (Bool.rec (motive := fun _ => Bool) (hasP tab fs θ p t_0) true (Bool.rec (motive := fun _ => Bool) false (Bool.rec (motive := fun _ => Bool) false (chkN tab fs θ p.2.2 h_0.2.2) (eqN p.2.1 h_0.2.1)) (Nat.beq p.1 h_0.1))) = _
    try simp only [iAddQ_eq, iMulQ_eq, iNegQ_eq, lenQ_eq, nthQ_eq, setQ_eq, appQ_eq, mapQ_eq, allQ_eq, anyQ_eq, dropQ_eq, takeQ_eq, revQ_eq, getDQ_eq, optLQ_eq, brecC]
    all_goals
      cases hq_1 : ((bif (Nat.beq p.1 h_0.1) then ((bif (eqN p.2.1 h_0.2.1) then (chkN tab fs θ p.2.2 h_0.2.2) else false)) else false)) with
      | false =>
        try dsimp only [cond_false, cond_true]
        all_goals rfl
      | true =>
        try dsimp only [cond_false, cond_true]
        all_goals rfl
noncomputable def chkP (tab : Tb) (fs : List Ln) (θ : Th) (a : List PD) : List PD → Bool :=
  fun e_0 => List.rec (motive := fun _ => Bool) true (fun h_0 t_0 ih => (Bool.rec (motive := fun _ => Bool) false (ih) (hasP tab fs θ h_0 a))) e_0 
theorem chkP_def (tab : Tb) (fs : List Ln) (θ : Th) (a : List PD) (e_0 : List PD) : chkP tab fs θ a e_0 = (match e_0 with
  | [] => true
  | p :: r => bif hasP tab fs θ p a then chkP tab fs θ a r else false) := by
  cases e_0 with
  | nil =>
    show true = _
    try simp only [iAddQ_eq, iMulQ_eq, iNegQ_eq, lenQ_eq, nthQ_eq, setQ_eq, appQ_eq, mapQ_eq, allQ_eq, anyQ_eq, dropQ_eq, takeQ_eq, revQ_eq, getDQ_eq, optLQ_eq, brecC]
    all_goals rfl
  | cons h_0 t_0 =>
    show (Bool.rec (motive := fun _ => Bool) false (chkP tab fs θ a t_0) (hasP tab fs θ h_0 a)) = _
    try simp only [iAddQ_eq, iMulQ_eq, iNegQ_eq, lenQ_eq, nthQ_eq, setQ_eq, appQ_eq, mapQ_eq, allQ_eq, anyQ_eq, dropQ_eq, takeQ_eq, revQ_eq, getDQ_eq, optLQ_eq, brecC]
    all_goals
      cases hq_1 : (hasP tab fs θ h_0 a) with
      | false =>
        try dsimp only [cond_false, cond_true]
        all_goals rfl
      | true =>
        try dsimp only [cond_false, cond_true]
        all_goals rfl
noncomputable def chkT (tab : Tb) (fs : List Ln) (θ : Th) : TbL → Bool :=
  fun e_0 => List.rec (motive := fun _ => Bool) true (fun h_0 t_0 ih => (Prod.rec (motive := fun _ => Bool) (fun s_1484 x_1485 => (Prod.rec (motive := fun _ => Bool) (fun lo_1486 hi_1487 => (Bool.rec (motive := fun _ => Bool) false (ih) (inF tab fs lo_1486 hi_1487 (θ s_1484)))) x_1485)) h_0)) e_0 
theorem chkT_def (tab : Tb) (fs : List Ln) (θ : Th) (e_0 : TbL) : chkT tab fs θ e_0 = (match e_0 with
  | [] => true
  | (s, lo, hi) :: r => bif inF tab fs lo hi (θ s) then chkT tab fs θ r else false) := by
  cases e_0 with
  | nil =>
    show true = _
    try simp only [iAddQ_eq, iMulQ_eq, iNegQ_eq, lenQ_eq, nthQ_eq, setQ_eq, appQ_eq, mapQ_eq, allQ_eq, anyQ_eq, dropQ_eq, takeQ_eq, revQ_eq, getDQ_eq, optLQ_eq, brecC]
    all_goals rfl
  | cons h_0 t_0 =>
    show (Prod.rec (motive := fun _ => Bool) (fun s_1488 x_1489 => (Prod.rec (motive := fun _ => Bool) (fun lo_1490 hi_1491 => (Bool.rec (motive := fun _ => Bool) false (chkT tab fs θ t_0) (inF tab fs lo_1490 hi_1491 (θ s_1488)))) x_1489)) h_0) = _
    try simp only [iAddQ_eq, iMulQ_eq, iNegQ_eq, lenQ_eq, nthQ_eq, setQ_eq, appQ_eq, mapQ_eq, allQ_eq, anyQ_eq, dropQ_eq, takeQ_eq, revQ_eq, getDQ_eq, optLQ_eq, brecC]
    all_goals
      cases h_0 with
      | mk y_1492 y_1493 =>
        try dsimp only [cond_false, cond_true]
        all_goals
          cases y_1493 with
          | mk y_1494 y_1495 =>
            try dsimp only [cond_false, cond_true]
            all_goals
              cases hq_3 : (inF tab fs y_1494 y_1495 ((θ y_1492))) with
              | false =>
                try dsimp only [cond_false, cond_true]
                all_goals rfl
              | true =>
                try dsimp only [cond_false, cond_true]
                all_goals rfl
noncomputable def chkF (tab : Tb) (fs : List Ln) (θ : Th) : List Ln → Bool :=
  fun e_0 => List.rec (motive := fun _ => Bool) true (fun h_0 t_0 ih => (Bool.rec (motive := fun _ => Bool) false (ih) (le0 tab fs (sbL θ h_0)))) e_0 
theorem chkF_def (tab : Tb) (fs : List Ln) (θ : Th) (e_0 : List Ln) : chkF tab fs θ e_0 = (match e_0 with
  | [] => true
  | f :: r => bif le0 tab fs (sbL θ f) then chkF tab fs θ r else false) := by
  cases e_0 with
  | nil =>
    show true = _
    try simp only [iAddQ_eq, iMulQ_eq, iNegQ_eq, lenQ_eq, nthQ_eq, setQ_eq, appQ_eq, mapQ_eq, allQ_eq, anyQ_eq, dropQ_eq, takeQ_eq, revQ_eq, getDQ_eq, optLQ_eq, brecC]
    all_goals rfl
  | cons h_0 t_0 =>
    show (Bool.rec (motive := fun _ => Bool) false (chkF tab fs θ t_0) (le0 tab fs (sbL θ h_0))) = _
    try simp only [iAddQ_eq, iMulQ_eq, iNegQ_eq, lenQ_eq, nthQ_eq, setQ_eq, appQ_eq, mapQ_eq, allQ_eq, anyQ_eq, dropQ_eq, takeQ_eq, revQ_eq, getDQ_eq, optLQ_eq, brecC]
    all_goals
      cases hq_1 : (le0 tab fs ((sbL θ h_0))) with
      | false =>
        try dsimp only [cond_false, cond_true]
        all_goals rfl
      | true =>
        try dsimp only [cond_false, cond_true]
        all_goals rfl
noncomputable def instP (tab : Tb) (fs : List Ln) (θ : Th) (P : Pt) (vs : List AV) (A : AH) (pr : List PD) : Bool :=
  (Bool.rec (motive := fun _ => Bool) false (Bool.rec (motive := fun _ => Bool) false (Bool.rec (motive := fun _ => Bool) false (Bool.rec (motive := fun _ => Bool) false (chkP tab fs θ pr P.2.2.2.2.2) (chkF tab fs θ P.2.2.1)) (chkT tab fs θ P.2.1)) (chkH tab fs θ P.2.2.2.2.1 A)) (chkVs tab fs θ P.2.2.2.1 vs))
theorem instP_def (tab : Tb) (fs : List Ln) (θ : Th) (P : Pt) (vs : List AV) (A : AH) (pr : List PD) : instP tab fs θ P vs A pr = bif chkVs tab fs θ P.2.2.2.1 vs then (bif chkH tab fs θ P.2.2.2.2.1 A then (bif chkT tab fs θ P.2.1 then (bif chkF tab fs θ P.2.2.1 then chkP tab fs θ pr P.2.2.2.2.2 else false) else false) else false) else false := by
  show (Bool.rec (motive := fun _ => Bool) false (Bool.rec (motive := fun _ => Bool) false (Bool.rec (motive := fun _ => Bool) false (Bool.rec (motive := fun _ => Bool) false (chkP tab fs θ pr P.2.2.2.2.2) (chkF tab fs θ P.2.2.1)) (chkT tab fs θ P.2.1)) (chkH tab fs θ P.2.2.2.2.1 A)) (chkVs tab fs θ P.2.2.2.1 vs)) = _
  try simp only [iAddQ_eq, iMulQ_eq, iNegQ_eq, lenQ_eq, nthQ_eq, setQ_eq, appQ_eq, mapQ_eq, allQ_eq, anyQ_eq, dropQ_eq, takeQ_eq, revQ_eq, getDQ_eq, optLQ_eq, brecC]
  all_goals
    cases hq_1 : (chkVs tab fs θ P.2.2.2.1 vs) with
    | false =>
      try dsimp only [cond_false, cond_true]
      all_goals rfl
    | true =>
      try dsimp only [cond_false, cond_true]
      all_goals
        cases hq_2 : (chkH tab fs θ P.2.2.2.2.1 A) with
        | false =>
          try dsimp only [cond_false, cond_true]
          all_goals rfl
        | true =>
          try dsimp only [cond_false, cond_true]
          all_goals
            cases hq_3 : (chkT tab fs θ P.2.1) with
            | false =>
              try dsimp only [cond_false, cond_true]
              all_goals rfl
            | true =>
              try dsimp only [cond_false, cond_true]
              all_goals
                cases hq_4 : (chkF tab fs θ P.2.2.1) with
                | false =>
                  try dsimp only [cond_false, cond_true]
                  all_goals rfl
                | true =>
                  try dsimp only [cond_false, cond_true]
                  all_goals rfl
noncomputable def thOf (tab : Tb) (fs : List Ln) (P : Pt) (vs : List AV) (A : AH) (pr : List PD) : Un :=
  (uniP tab fs pr (uniH (uniVs un0 P.2.2.2.1 vs) P.2.2.2.2.1 A) P.2.2.2.2.2)
theorem thOf_def (tab : Tb) (fs : List Ln) (P : Pt) (vs : List AV) (A : AH) (pr : List PD) : thOf tab fs P vs A pr = uniP tab fs pr (uniH (uniVs un0 P.2.2.2.1 vs) P.2.2.2.2.1 A) P.2.2.2.2.2 := by
  show (uniP tab fs pr (uniH (uniVs un0 P.2.2.2.1 vs) P.2.2.2.2.1 A) P.2.2.2.2.2) = _
  all_goals rfl
section PAT
variable {ρ : Nat → Int} {tab : Tb} {fs : List Ln} {θ : Th}
noncomputable abbrev thE (ρ : Nat → Int) (θ : Th) : Nat → Int := fun s => ev ρ (θ s)
theorem eqLθ (ht : tOk ρ tab) (hf : fOk ρ fs) {e e' : Ln} (h : eqL tab fs (sbL θ e) e' = true) : ev (thE ρ θ) e = ev ρ e' := by
  rw [← eqL_ok ht hf h, ev_sb]
theorem chkV_ok (ht : tOk ρ tab) (hf : fOk ρ fs) {v : Value} {p a : AV} (ha : vrel ρ v a) (h : chkV tab fs θ p a = true) : vrel (thE ρ θ) v p := by
  rw [chkV_def] at h
  split at h
  · rename_i b e b' e'
    cases hb : lnB b b' with
    | false => rw [hb] at h; cases h
    | true =>
      rw [hb] at h
      have := lnB_eq hb
      subst this
      cases b with
      | false => obtain ⟨x, e1, e2⟩ := ha; exact ⟨x, e1, e2.trans (eqLθ ht hf h).symm⟩
      | true => obtain ⟨x, e1, e2⟩ := ha; exact ⟨x, e1, e2.trans (eqLθ ht hf h).symm⟩
  · rename_i i j
    have := Nat.eq_of_beq_eq_true h
    subst this
    exact ha
  · exact ha
  · cases h
theorem chkVs_ok (ht : tOk ρ tab) (hf : fOk ρ fs) {vs : List Value} {ps as : List AV} (ha : rel2 (vrel ρ) vs as) (h : chkVs tab fs θ ps as = true) : rel2 (vrel (thE ρ θ)) vs ps := by
  induction ps generalizing vs as with
  | nil =>
    cases as with
    | nil => rw [rel2_nil ha]; exact trivial
    | cons a r => cases h
  | cons p r ih =>
    cases as with
    | nil => cases h
    | cons a q =>
      rw [chkVs_def] at h
      try dsimp only at h
      cases hc : chkV tab fs θ p a with
      | false => rw [hc] at h; cases h
      | true =>
        rw [hc] at h
        obtain ⟨v, vs', e, h1, h2⟩ := rel2_cons ha
        subst e
        exact ⟨chkV_ok ht hf h1 hc, ih h2 h⟩
theorem srel_zero {ρ : Nat → Int} {lo hi : Int} {r : List Sg} {l : List Int32} (h : srel ρ r l) : srel ρ (.inr (0, lo, hi) :: r) l := ⟨[], l, rfl, rfl, fun x hx => (by cases hx), h⟩
theorem srel_zero' {ρ : Nat → Int} {lo hi : Int} {r : List Sg} {l : List Int32} (h : srel ρ (.inr (0, lo, hi) :: r) l) : srel ρ r l := by
  obtain ⟨l1, l2, e1, e2, e3, e4⟩ := h
  have := List.length_eq_zero_iff.mp e2
  subst this
  subst e1
  exact e4
theorem srel_split {ρ : Nat → Int} {m k : Nat} {lo hi : Int} {r : List Sg} {l : List Int32} (h : srel ρ (.inr (m + k, lo, hi) :: r) l) : ∃ l1 l2, l = l1 ++ l2 ∧ l1.length = m ∧ (∀ x ∈ l1, lo ≤ x.toInt ∧ x.toInt ≤ hi) ∧ srel ρ (.inr (k, lo, hi) :: r) l2 := by
  obtain ⟨l1, l2, e1, e2, e3, e4⟩ := h
  subst e1
  refine ⟨l1.take m, l1.drop m ++ l2, by rw [← List.append_assoc, List.take_append_drop], by rw [List.length_take]; omega, fun x hx => e3 x (List.mem_of_mem_take hx), l1.drop m, l2, rfl, by rw [List.length_drop]; omega, fun x hx => e3 x (List.mem_of_mem_drop hx), e4⟩
theorem srel_join {ρ : Nat → Int} {m k : Nat} {lo hi : Int} {r : List Sg} {l1 l2 : List Int32} (h1 : l1.length = m) (h2 : ∀ x ∈ l1, lo ≤ x.toInt ∧ x.toInt ≤ hi) (h : srel ρ (.inr (k, lo, hi) :: r) l2) : srel ρ (.inr (m + k, lo, hi) :: r) (l1 ++ l2) := by
  obtain ⟨l3, l4, e1, e2, e3, e4⟩ := h
  subst e1
  refine ⟨l1 ++ l3, l4, by rw [List.append_assoc], by rw [List.length_append]; omega, fun x hx => ?_, e4⟩
  rcases List.mem_append.mp hx with q | q
  · exact h2 x q
  · exact e3 x q
theorem sgLe_ok (ht : tOk ρ tab) (hf : fOk ρ fs) : ∀ (n : Nat) (p a : List Sg) (l : List Int32), sgLe tab fs θ n p a = true → srel ρ a l → srel (thE ρ θ) p l := by
  intro n
  induction n with
  | zero => intro p a l h; cases h
  | succ n ih =>
    intro p a l h hl
    rw [sgLe_def] at h
    try dsimp only at h
    split at h
    · exact hl
    · rename_i e r e' q
      cases hc : eqL tab fs (sbL θ e) e' with
      | false => rw [hc] at h; cases h
      | true =>
        rw [hc] at h
        obtain ⟨x, l', e1, e2, h3⟩ := hl
        exact ⟨x, l', e1, e2.trans (eqLθ ht hf hc).symm, ih _ _ _ h h3⟩
    · rename_i e r m lo hi q
      split at h
      · exact ih _ _ _ h (srel_zero' hl)
      · rename_i m
        cases hc : eqI lo hi with
        | false => rw [hc] at h; cases h
        | true =>
          rw [hc] at h
          cases hd : eqL tab fs (sbL θ e) (kL lo) with
          | false => rw [hd] at h; cases h
          | true =>
            rw [hd] at h
            have := eqI_eq hc
            subst this
            rw [show Nat.succ m = 1 + m by omega] at hl
            obtain ⟨l1, l2, e1, e2, e3, e4⟩ := srel_split hl
            match l1, e2 with
            | [x], _ =>
              have e5 := e3 x List.mem_cons_self
              exact ⟨x, l2, e1, by rw [eqLθ ht hf hd, ev_k]; omega, ih _ _ _ h e4⟩
    · rename_i m lo hi r
      cases hc : Nat.beq m 0 with
      | false => rw [hc] at h; cases h
      | true =>
        rw [hc] at h
        have := Nat.eq_of_beq_eq_true hc
        subst this
        exact srel_zero (ih _ _ _ h hl)
    · rename_i m lo hi q
      cases hc : Nat.beq m 0 with
      | false => rw [hc] at h; cases h
      | true =>
        rw [hc] at h
        have := Nat.eq_of_beq_eq_true hc
        subst this
        exact ih _ _ _ h (srel_zero' hl)
    · rename_i m lo hi r e' q
      split at h
      · exact srel_zero (ih _ _ _ h hl)
      · rename_i m
        cases hc : inF tab fs lo hi e' with
        | false => rw [hc] at h; cases h
        | true =>
          rw [hc] at h
          obtain ⟨x, l', e1, e2, h3⟩ := hl
          have e5 := inF_ok ht hf hc
          subst e1
          rw [show Nat.succ m = 1 + m by omega]
          exact srel_join (l1 := [x]) rfl (fun y hy => by rw [List.mem_singleton.mp hy, e2]; exact e5) (ih _ _ _ h h3)
    · rename_i m lo hi r m' lo' hi' q
      cases hc : (bif Nat.beq m' 0 then true else bif Nat.beq m 0 then true else bif leI lo lo' then leI hi' hi else false) with
      | false => rw [hc] at h; cases h
      | true =>
        rw [hc] at h
        have fit : ∀ (k : Nat) (l1 : List Int32), l1.length = k → k ≤ m → k ≤ m' → (∀ x ∈ l1, lo' ≤ x.toInt ∧ x.toInt ≤ hi') → ∀ x ∈ l1, lo ≤ x.toInt ∧ x.toInt ≤ hi := by
          intro k l1 hk h1 h2 hx x hxm
          have hpos : 0 < l1.length := List.length_pos_of_mem hxm
          cases z1 : Nat.beq m' 0 with
          | true => have := Nat.eq_of_beq_eq_true z1; omega
          | false =>
            cases z2 : Nat.beq m 0 with
            | true => have := Nat.eq_of_beq_eq_true z2; omega
            | false =>
              rw [z1, z2] at hc
              simp only [cond_false] at hc
              cases z3 : leI lo lo' with
              | false => rw [z3] at hc; cases hc
              | true =>
                rw [z3] at hc
                have q1 := leI_le z3
                have q2 := leI_le hc
                have q3 := hx x hxm
                omega
        simp only [cond_true] at h
        cases hd : Nat.ble m m' with
        | true =>
          rw [hd] at h
          have hle := Nat.le_of_ble_eq_true hd
          simp only [cond_true] at h
          cases he : Nat.beq m m' with
          | true =>
            rw [he] at h
            have := Nat.eq_of_beq_eq_true he
            subst this
            obtain ⟨l1, l2, e1, e2, e3, e4⟩ := hl
            exact ⟨l1, l2, e1, e2, fit m l1 e2 (Nat.le_refl _) (Nat.le_refl _) e3, ih _ _ _ h e4⟩
          | false =>
            rw [he] at h
            have e0 : m' = m + Nat.sub m' m := by show m' = m + (m' - m); omega
            rw [e0] at hl
            obtain ⟨l1, l2, e1, e2, e3, e4⟩ := srel_split hl
            exact ⟨l1, l2, e1, e2, fit m l1 e2 (Nat.le_refl _) hle e3, ih _ _ _ h e4⟩
        | false =>
          rw [hd] at h
          have hlt : m' < m := Nat.lt_of_not_le fun q => by rw [Nat.ble_eq_true_of_le q] at hd; cases hd
          obtain ⟨l1, l2, e1, e2, e3, e4⟩ := hl
          subst e1
          have e0 : m = m' + Nat.sub m m' := by show m = m' + (m - m'); omega
          rw [e0]
          exact srel_join e2 (fit m' l1 e2 (by omega) (Nat.le_refl _) e3) (ih _ _ _ h e4)
    · cases h
theorem eqO_eq {a b : List (Option Nat)} (h : eqO a b = true) : a = b := by
  induction a generalizing b with
  | nil => cases b with
    | nil => rfl
    | cons q r => cases h
  | cons p r ih => cases b with
    | nil => cases p <;> cases h
    | cons q r' =>
      cases p with
      | none => cases q with
        | none => rw [ih h]
        | some j => cases h
      | some i => cases q with
        | none => cases h
        | some j =>
          rw [eqO_def] at h
          try dsimp only at h
          cases h1 : Nat.beq i j with
          | false => rw [h1] at h; cases h
          | true => rw [h1] at h; rw [Nat.eq_of_beq_eq_true h1, ih h]
theorem eqN_eq {a b : List Nat} (h : eqN a b = true) : a = b := by
  induction a generalizing b with
  | nil => cases b with
    | nil => rfl
    | cons q r => cases h
  | cons p r ih => cases b with
    | nil => cases h
    | cons q r' =>
      rw [eqN_def] at h
      try dsimp only at h
      cases h1 : Nat.beq p q with
      | false => rw [h1] at h; cases h
      | true => rw [h1] at h; rw [Nat.eq_of_beq_eq_true h1, ih h]
theorem chkC_ok (ht : tOk ρ tab) (hf : fOk ρ fs) {c : SC} {p a : AC} (ha : crel ρ c a) (h : chkC tab fs θ p a = true) : crel (thE ρ θ) c p := by
  rw [chkC_def] at h
  split at h
  · rename_i k l k' l'
    cases hb : Nat.beq k k' with
    | false => rw [hb] at h; cases h
    | true =>
      rw [hb] at h
      rw [Nat.eq_of_beq_eq_true hb]
      obtain ⟨f, e1, e2⟩ := ha
      exact ⟨f, e1, chkVs_ok ht hf e2 h⟩
  · rename_i k l k' l'
    cases hb : Nat.beq k k' with
    | false => rw [hb] at h; cases h
    | true =>
      rw [hb] at h
      have hkk := Nat.eq_of_beq_eq_true hb
      subst hkk
      have ha' : arel ρ k l' c := ha
      show arel (thE ρ θ) k l c
      unfold arel at ha' ⊢
      cases hk : Nat.blt k 100 with
      | true =>
        rw [hk] at h
        simp only [cond_true] at h
        rw [if_pos (blt_iff.mp hk)] at ha' ⊢
        obtain ⟨f, e1, e2⟩ := ha'
        exact ⟨f, e1, sgLe_ok ht hf _ _ _ _ h e2⟩
      | false =>
        rw [hk] at h
        have hn : ¬ k < 100 := Nat.not_lt.mpr (blt_f hk)
        rw [if_neg hn] at ha' ⊢
        obtain ⟨f, e1, e2⟩ := ha'
        refine ⟨f, e1, ?_⟩
        simp only [cond_true, cond_false] at h
        rw [conLe_def] at h
        split at h
        · exact Eq.trans e2 (eqLθ ht hf h).symm
        · cases h
  · rename_i k l k' l'
    cases hb : Nat.beq k k' with
    | false => rw [hb] at h; cases h
    | true =>
      rw [hb] at h
      rw [Nat.eq_of_beq_eq_true hb]
      obtain ⟨f, e1, e2⟩ := ha
      simp only [cond_true] at h
      cases hc : Nat.beq l l' with
      | true => exact ⟨f, e1, by rw [Nat.eq_of_beq_eq_true hc]; exact e2⟩
      | false =>
        rw [hc, cond_false] at h
        cases hd : Nat.blt l zB with
        | false => rw [hd] at h; cases h
        | true =>
          rw [hd, cond_true] at h
          have e3 : l' = Nat.add zB l := Nat.eq_of_beq_eq_true h
          have hd' := blt_iff.mp hd
          refine ⟨f, e1, ?_, fun h2 => by rw [hd] at h2; cases h2⟩
          rw [e2.1, e3, jLen_add hd', jLen_lt hd]
  · rename_i k l k' l'
    cases hb : Nat.beq k k' with
    | false => rw [hb] at h; cases h
    | true =>
      rw [hb] at h
      rw [Nat.eq_of_beq_eq_true hb, eqO_eq h]
      exact ha
  · cases h
theorem chkH_ok (ht : tOk ρ tab) (hf : fOk ρ fs) {σ : SH} {ps as : AH} (ha : rel2 (crel ρ) σ as) (h : chkH tab fs θ ps as = true) : rel2 (crel (thE ρ θ)) σ ps := by
  induction ps generalizing σ as with
  | nil =>
    cases as with
    | nil => rw [rel2_nil ha]; exact trivial
    | cons a r => cases h
  | cons p r ih =>
    cases as with
    | nil => cases h
    | cons a q =>
      rw [chkH_def] at h
      try dsimp only at h
      cases hc : chkC tab fs θ p a with
      | false => rw [hc] at h; cases h
      | true =>
        rw [hc] at h
        obtain ⟨v, vs', e, h1, h2⟩ := rel2_cons ha
        subst e
        exact ⟨chkC_ok ht hf h1 hc, ih h2 h⟩
theorem chkN_ok (ht : tOk ρ tab) (hf : fOk ρ fs) {ps as : List Ln} (h : chkN tab fs θ ps as = true) : ps.map (ev (thE ρ θ)) = as.map (ev ρ) := by
  induction ps generalizing as with
  | nil =>
    cases as with
    | nil => rfl
    | cons a r => cases h
  | cons p r ih =>
    cases as with
    | nil => cases h
    | cons a q =>
      rw [chkN_def] at h
      try dsimp only at h
      cases h1 : eqL tab fs (sbL θ p) a with
      | false => rw [h1] at h; cases h
      | true =>
        rw [h1] at h
        rw [List.map_cons, List.map_cons, ih h, eqLθ ht hf h1]
theorem hasP_mem (ht : tOk ρ tab) (hf : fOk ρ fs) {p : PD} {a : List PD} (h : hasP tab fs θ p a = true) : ∃ q ∈ a, p.1 = q.1 ∧ p.2.1 = q.2.1 ∧ p.2.2.map (ev (thE ρ θ)) = q.2.2.map (ev ρ) := by
  induction a with
  | nil => cases h
  | cons q r ih =>
    rw [hasP_def] at h
    try dsimp only at h
    cases h1 : (bif Nat.beq p.1 q.1 then (bif eqN p.2.1 q.2.1 then chkN tab fs θ p.2.2 q.2.2 else false) else false) with
    | false =>
      rw [h1] at h
      obtain ⟨q', q1, q2⟩ := ih h
      exact ⟨q', List.mem_cons_of_mem _ q1, q2⟩
    | true =>
      cases h2 : Nat.beq p.1 q.1 with
      | false => rw [h2] at h1; cases h1
      | true =>
        rw [h2] at h1
        cases h3 : eqN p.2.1 q.2.1 with
        | false => rw [h3] at h1; cases h1
        | true =>
          rw [h3] at h1
          exact ⟨q, List.mem_cons_self, Nat.eq_of_beq_eq_true h2, eqN_eq h3, chkN_ok ht hf h1⟩
theorem chkP_ok (ht : tOk ρ tab) (hf : fOk ρ fs) {a ps : List PD} (h : chkP tab fs θ a ps = true) : ∀ p ∈ ps, ∃ q ∈ a, p.1 = q.1 ∧ p.2.1 = q.2.1 ∧ p.2.2.map (ev (thE ρ θ)) = q.2.2.map (ev ρ) := by
  induction ps with
  | nil => intro p hp; cases hp
  | cons q r ih =>
    rw [chkP_def] at h
    try dsimp only at h
    cases h1 : hasP tab fs θ q a with
    | false => rw [h1] at h; cases h
    | true =>
      rw [h1] at h
      intro p hp
      rcases List.mem_cons.mp hp with rfl | hp
      · exact hasP_mem ht hf h1
      · exact ih h p hp
theorem chkT_ok (ht : tOk ρ tab) (hf : fOk ρ fs) {ps : TbL} (h : chkT tab fs θ ps = true) : tOkL (thE ρ θ) ps := by
  induction ps with
  | nil => intro p hp; cases hp
  | cons q r ih =>
    obtain ⟨s, lo, hi⟩ := q
    rw [chkT_def] at h
    try dsimp only at h
    cases h1 : inF tab fs lo hi (θ s) with
    | false => rw [h1] at h; cases h
    | true =>
      rw [h1] at h
      intro p hp
      rcases List.mem_cons.mp hp with rfl | hp
      · exact inF_ok ht hf h1
      · exact ih h p hp
theorem chkF_ok (ht : tOk ρ tab) (hf : fOk ρ fs) {ps : List Ln} (h : chkF tab fs θ ps = true) : fOk (thE ρ θ) ps := by
  induction ps with
  | nil => intro p hp; cases hp
  | cons q r ih =>
    rw [chkF_def] at h
    try dsimp only at h
    cases h1 : le0 tab fs (sbL θ q) with
    | false => rw [h1] at h; cases h
    | true =>
      rw [h1] at h
      intro p hp
      rcases List.mem_cons.mp hp with rfl | hp
      · have := le0_ok ht hf h1
        rw [ev_sb] at this
        exact this
      · exact ih h p hp
theorem instP_ok {PP : Nat → List (List Int32) → List Int → Prop} {P : Pt} {vs : List AV} {A : AH} {pr : List PD} {cvs : List Value} {σ : SH} (ht : tOk ρ tab) (hf : fOk ρ fs) (hv : rel2 (vrel ρ) cvs vs) (hA : rel2 (crel ρ) σ A) (hp : prOk PP ρ σ pr) (h : instP tab fs θ P vs A pr = true) : PtOk PP (thE ρ θ) P cvs σ := by
  rw [instP_def] at h
  cases h1 : chkVs tab fs θ P.2.2.2.1 vs with
  | false => rw [h1] at h; cases h
  | true =>
    rw [h1] at h
    cases h2 : chkH tab fs θ P.2.2.2.2.1 A with
    | false => rw [h2] at h; cases h
    | true =>
      rw [h2] at h
      cases h3 : chkT tab fs θ P.2.1 with
      | false => rw [h3] at h; cases h
      | true =>
        rw [h3] at h
        cases h4 : chkF tab fs θ P.2.2.1 with
        | false => rw [h4] at h; cases h
        | true =>
          rw [h4] at h
          exact ⟨chkT_ok ht hf h3, chkF_ok ht hf h4, chkVs_ok ht hf hv h1, chkH_ok ht hf hA h2, fun p hq => (by
            obtain ⟨q, q1, q2, q3, q4⟩ := chkP_ok ht hf h p hq
            rw [q2, q3, q4]
            exact hp q q1)⟩
end PAT
-- which symbols a pattern speaks of
noncomputable def scV (n : Nat) (a : AV) : Bool := match a with
  | .inl (_, e) => scL n e
  | .inr (.inr (p, q)) => bif scL n p then scL n q else false
  | _ => true
noncomputable def scS (n : Nat) (s : Sg) : Bool := match s with
  | .inl e => scL n e
  | _ => true
noncomputable def scC (n : Nat) (c : AC) : Bool := match c with
  | .inl (_, as) => as.all (scV n)
  | .inr (_, .inl s) => s.all (scS n)
  | _ => true
noncomputable def scP (P : Pt) : Bool := P.2.1.all (fun q => Nat.blt q.1 P.1) && (P.2.2.1.all (scL P.1) && (P.2.2.2.1.all (scV P.1) && (P.2.2.2.2.1.all (scC P.1) && P.2.2.2.2.2.all (fun p => p.2.2.all (scL P.1)))))
section SC
variable {n : Nat} {ρ ρ' : Nat → Int}
theorem scV_ok (ha : agr2 n ρ ρ') {v : Value} {a : AV} (hs : scV n a = true) (h : vrel ρ v a) : vrel ρ' v a := by
  match a, h with
  | .inl (false, e), ⟨x, e1, e2⟩ => exact ⟨x, e1, e2.trans (scL_ev ha hs).symm⟩
  | .inl (true, e), ⟨x, e1, e2⟩ => exact ⟨x, e1, e2.trans (scL_ev ha hs).symm⟩
  | .inr (.inl (some i)), e1 => exact e1
  | .inr (.inl none), e1 => exact e1
  | .inr (.inr (p, q)), e1 =>
    have hs' : (bif scL n p then scL n q else false) = true := hs
    cases h1 : scL n p with
    | false => rw [h1] at hs'; cases hs'
    | true =>
      rw [h1] at hs'
      show v = .int (cmpZ (ev ρ' p) (ev ρ' q))
      rw [scL_ev ha h1, scL_ev ha hs']
      exact e1
theorem rel2_all {α β : Type} {R R' : α → β → Prop} {f : β → Bool} (hi : ∀ a b, f b = true → R a b → R' a b) {l : List α} {r : List β} (hr : r.all f = true) (h : rel2 R l r) : rel2 R' l r := by
  induction r generalizing l with
  | nil => rw [rel2_nil h]; exact trivial
  | cons b r ih =>
    obtain ⟨a, l', e, h1, h2⟩ := rel2_cons h
    subst e
    rw [List.all_cons, Bool.and_eq_true] at hr
    exact ⟨hi a b hr.1 h1, ih hr.2 h2⟩
theorem scS_ok (ha : agr2 n ρ ρ') {s : List Sg} {l : List Int32} (hs : s.all (scS n) = true) (h : srel ρ s l) : srel ρ' s l := by
  induction s generalizing l with
  | nil => exact h
  | cons q r ih =>
    rw [List.all_cons, Bool.and_eq_true] at hs
    match q, h, hs with
    | .inl e, ⟨x, l', e1, e2, h2⟩, hs => exact ⟨x, l', e1, e2.trans (scL_ev ha hs.1).symm, ih hs.2 h2⟩
    | .inr (m, lo, hi), ⟨l1, l2, e1, e2, e3, h2⟩, hs => exact ⟨l1, l2, e1, e2, e3, ih hs.2 h2⟩
theorem scC_ok (ha : agr2 n ρ ρ') {c : SC} {a : AC} (hs : scC n a = true) (h : crel ρ c a) : crel ρ' c a := by
  match a, h with
  | .inl (ci, as), ⟨fs, e, h'⟩ => exact ⟨fs, e, rel2_all (f := scV n) (R' := vrel ρ') (fun _ _ q r => scV_ok ha q r) hs h'⟩
  | .inr (k, .inl s), h =>
    have h' : arel ρ k s c := h
    show arel ρ' k s c
    unfold arel at h' ⊢
    split at h'
    · rename_i hk
      rw [if_pos hk]
      obtain ⟨l, e, h2⟩ := h'
      exact ⟨l, e, scS_ok ha hs h2⟩
    · rename_i hk
      rw [if_neg hk]
      obtain ⟨l, e, h2⟩ := h'
      refine ⟨l, e, ?_⟩
      match s, hs, h2 with
      | [.inl e], hs, h2 =>
        have hs' : ([Sum.inl e] : List Sg).all (scS n) = true := hs
        simp only [List.all_cons, List.all_nil, Bool.and_true] at hs'
        exact Eq.trans h2 (scL_ev ha hs').symm
  | .inr (k, .inr (.inl m)), ⟨l, e, h'⟩ => exact ⟨l, e, h'⟩
  | .inr (k, .inr (.inr q)), e => exact e
end SC
theorem prOk_agr {PP : Nat → List (List Int32) → List Int → Prop} {n : Nat} {ρ ρ' : Nat → Int} {σ : SH} {pr : List PD} (ha : agr2 n ρ ρ') (hs : pr.all (fun p => p.2.2.all (scL n)) = true) (h : prOk PP ρ σ pr) : prOk PP ρ' σ pr := fun p hp => by
  have e : p.2.2.map (ev ρ') = p.2.2.map (ev ρ) := List.map_congr_left fun e he => scL_ev ha (List.all_eq_true.mp (List.all_eq_true.mp hs p hp) e he)
  rw [e]
  exact h p hp
theorem PtOk_agr {PP : Nat → List (List Int32) → List Int → Prop} {P : Pt} {ρ ρ' : Nat → Int} {vs : List Value} {σ : SH} (hs : scP P = true) (ha : agr2 P.1 ρ ρ') (h : PtOk PP ρ P vs σ) : PtOk PP ρ' P vs σ := by
  unfold scP at hs
  simp only [Bool.and_eq_true] at hs
  obtain ⟨s1, s2, s3, s4, s5⟩ := hs
  obtain ⟨h1, h2, h3, h4, h5⟩ := h
  refine ⟨fun q hq => ?_, fun f hf => ?_, rel2_all (f := scV P.1) (R' := vrel ρ') (fun _ _ q r => scV_ok ha q r) s3 h3, rel2_all (f := scC P.1) (R' := crel ρ') (fun _ _ q r => scC_ok ha q r) s4 h4, prOk_agr ha s5 h5⟩
  · rw [ha q.1 (blt_iff.mp (List.all_eq_true.mp s1 q hq))]
    exact h1 q hq
  · rw [scL_ev ha (List.all_eq_true.mp s2 f hf)]
    exact h2 f hf
