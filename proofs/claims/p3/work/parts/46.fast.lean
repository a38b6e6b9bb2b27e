/-! ===== the runner, quicker: what an instruction does is found once a place ===== -/
abbrev SF : Type := Option SL → List Ct → FN → KK → List AV → AL → AH → List PD → Nat → Tb → List Ln → Nat → Nat → Bool
noncomputable def frc {α : Type} (n : Nat) (k : Nat → α) : α := Nat.rec (motive := fun _ => α) (k (nat_lit 0)) (fun m _ => k (Nat.succ m)) n
theorem frc_eq {α : Type} (n : Nat) (k : Nat → α) : frc n k = k n := by cases n <;> rfl
noncomputable def frcI {α : Type} (z : Int) (k : Int → α) : α := Int.rec (motive := fun _ => α) (fun m => frc m (fun m => k (.ofNat m))) (fun m => frc m (fun m => k (.negSucc m))) z
theorem frcI_eq {α : Type} (z : Int) (k : Int → α) : frcI z k = k z := by
  cases z with
  | ofNat m =>
    show frc m (fun m => k (.ofNat m)) = _
    rw [frc_eq]
  | negSucc m =>
    show frc m (fun m => k (.negSucc m)) = _
    rw [frc_eq]
/-- the slow way -/
noncomputable def oS (ini : Bool) (o nL pc : Nat) (e : XE) : SF := fun scl env fin k st lv A pr nx tab fs ca cb => step scl ini o nL env fin k e pc st lv A pr nx tab fs ca cb
noncomputable def oK (n : Nat) (v : AV) (scl : Option SL) (env : List Ct) (fin : FN) (k : KK) (st : List AV) (lv : AL) (A : AH) (pr : List PD) (nx : Nat) (tab : Tb) (fs : List Ln) (ca cb : Nat) : Bool :=
  (k n (v :: st) lv A pr nx tab fs ca cb)
theorem oK_def (n : Nat) (v : AV) (scl : Option SL) (env : List Ct) (fin : FN) (k : KK) (st : List AV) (lv : AL) (A : AH) (pr : List PD) (nx : Nat) (tab : Tb) (fs : List Ln) (ca cb : Nat) : oK n v scl env fin k st lv A pr nx tab fs ca cb = k n (v :: st) lv A pr nx tab fs ca cb := by
  show (k n (v :: st) lv A pr nx tab fs ca cb) = _
  all_goals rfl
noncomputable def o0 (n : Nat) (f : Tb → List Ln → AL → List AV → Option SV) (scl : Option SL) (env : List Ct) (fin : FN) (k : KK) (st : List AV) (lv : AL) (A : AH) (pr : List PD) (nx : Nat) (tab : Tb) (fs : List Ln) (ca cb : Nat) : Bool :=
  (Option.rec (motive := fun _ => Bool) false (fun x_3307 => (Prod.rec (motive := fun _ => Bool) (fun rest_3308 r_3309 => (pushR nx tab fs r_3309 (fun nx tab fs v => (k n (v :: rest_3308) lv A pr nx tab fs ca cb)))) x_3307)) (f tab fs lv st))
theorem o0_def (n : Nat) (f : Tb → List Ln → AL → List AV → Option SV) (scl : Option SL) (env : List Ct) (fin : FN) (k : KK) (st : List AV) (lv : AL) (A : AH) (pr : List PD) (nx : Nat) (tab : Tb) (fs : List Ln) (ca cb : Nat) : o0 n f scl env fin k st lv A pr nx tab fs ca cb = (match f tab fs lv st with
  | some (rest, r) => pushR nx tab fs r (fun nx tab fs v => k n (v :: rest) lv A pr nx tab fs ca cb)
  | none => false) := by
  show (Option.rec (motive := fun _ => Bool) false (fun x_3304 => (Prod.rec (motive := fun _ => Bool) (fun rest_3305 r_3306 => (pushR nx tab fs r_3306 (fun nx tab fs v => (k n (v :: rest_3305) lv A pr nx tab fs ca cb)))) x_3304)) (f tab fs lv st)) = _
  all_goals
    cases hq_1 : (f tab fs lv st) with
    | none =>
      try dsimp only [cond_false, cond_true]
      all_goals rfl
    | some y_3310 =>
      try dsimp only [cond_false, cond_true]
      all_goals
        cases y_3310 with
        | mk y_3311 y_3312 =>
          try dsimp only [cond_false, cond_true]
          all_goals rfl
noncomputable def o1_a0 :=
  fun (k : KK) (n : Nat) rest_3317 lv_3318 (A : AH) (pr : List PD) (nx : Nat) (tab : Tb) (fs : List Ln) (ca : Nat) (cb : Nat) => ((k n rest_3317 lv_3318 A pr nx tab fs ca cb) : Bool)
noncomputable def o1 (n : Nat) (f : Nat → List AV → AL → Option (List AV × AL)) (scl : Option SL) (env : List Ct) (fin : FN) (k : KK) (st : List AV) (lv : AL) (A : AH) (pr : List PD) (nx : Nat) (tab : Tb) (fs : List Ln) (ca cb : Nat) : Bool :=
  (Option.rec (motive := fun _ => Bool) false (fun x_3316 => (Prod.rec (motive := fun _ => Bool) (fun rest_3317 lv_3318 => (o1_a0 k n rest_3317 lv_3318 A pr nx tab fs ca cb)) x_3316)) (f (lenQ A) st lv))
theorem o1_def (n : Nat) (f : Nat → List AV → AL → Option (List AV × AL)) (scl : Option SL) (env : List Ct) (fin : FN) (k : KK) (st : List AV) (lv : AL) (A : AH) (pr : List PD) (nx : Nat) (tab : Tb) (fs : List Ln) (ca cb : Nat) : o1 n f scl env fin k st lv A pr nx tab fs ca cb = (match f A.length st lv with
  | some (rest, lv') => k n rest lv' A pr nx tab fs ca cb
  | none => false) := by
  show (Option.rec (motive := fun _ => Bool) false (fun x_3313 => (Prod.rec (motive := fun _ => Bool) (fun rest_3314 lv_3315 => (k n rest_3314 lv_3315 A pr nx tab fs ca cb)) x_3313)) (f (lenQ A) st lv)) = _
  try simp only [iAddQ_eq, iMulQ_eq, iNegQ_eq, lenQ_eq, nthQ_eq, setQ_eq, appQ_eq, mapQ_eq, allQ_eq, anyQ_eq, dropQ_eq, takeQ_eq, revQ_eq, getDQ_eq, optLQ_eq, brecC]
  all_goals
    cases hq_1 : (f A.length st lv) with
    | none =>
      try dsimp only [cond_false, cond_true]
      all_goals rfl
    | some y_3319 =>
      try dsimp only [cond_false, cond_true]
      all_goals
        cases y_3319 with
        | mk y_3320 y_3321 =>
          try dsimp only [cond_false, cond_true]
          all_goals rfl
noncomputable def oInc (n nL x : Nat) (m : Int) (scl : Option SL) (env : List Ct) (fin : FN) (k : KK) (st : List AV) (lv : AL) (A : AH) (pr : List PD) (nx : Nat) (tab : Tb) (fs : List Ln) (ca cb : Nat) : Bool :=
  (Option.rec (motive := fun _ => Bool) false (fun x_3327 => (Sum.rec (motive := fun _ => Bool) (fun x_3328 => (Prod.rec (motive := fun _ => Bool) (fun x_3330 e_3331 => (Bool.rec (motive := fun _ => Bool) (Bool.rec (motive := fun _ => Bool) false (Bool.rec (motive := fun _ => Bool) false (Bool.rec (motive := fun _ => Bool) false (pushR nx tab fs (.inr (false, (fitIF tab fs (pluL e_3331 m)))) (fun nx tab fs v => (k n st ((x, v) :: (alDel false x lv)) A pr nx tab fs ca cb))) (leI m hi32)) (leI lo32 m)) (Nat.blt x nL)) false x_3330)) x_3328)) (fun x_3329 => false) x_3327)) (alGet x lv))
theorem oInc_def (n nL x : Nat) (m : Int) (scl : Option SL) (env : List Ct) (fin : FN) (k : KK) (st : List AV) (lv : AL) (A : AH) (pr : List PD) (nx : Nat) (tab : Tb) (fs : List Ln) (ca cb : Nat) : oInc n nL x m scl env fin k st lv A pr nx tab fs ca cb = (match alGet x lv with
  | some (.inl (false, e)) => bif Nat.blt x nL then (bif leI lo32 m then (bif leI m hi32 then pushR nx tab fs (.inr (false, fitIF tab fs (pluL e m))) (fun nx tab fs v => k n st ((x, v) :: alDel false x lv) A pr nx tab fs ca cb) else false) else false) else false
  | _ => false) := by
  show (Option.rec (motive := fun _ => Bool) false (fun x_3322 => (Sum.rec (motive := fun _ => Bool) (fun x_3323 => (Prod.rec (motive := fun _ => Bool) (fun x_3325 e_3326 => (Bool.rec (motive := fun _ => Bool) (Bool.rec (motive := fun _ => Bool) false (Bool.rec (motive := fun _ => Bool) false (Bool.rec (motive := fun _ => Bool) false (pushR nx tab fs (.inr (false, (fitIF tab fs (pluL e_3326 m)))) (fun nx tab fs v => (k n st ((x, v) :: (alDel false x lv)) A pr nx tab fs ca cb))) (leI m hi32)) (leI lo32 m)) (Nat.blt x nL)) false x_3325)) x_3323)) (fun x_3324 => false) x_3322)) (alGet x lv)) = _
  try simp only [iAddQ_eq, iMulQ_eq, iNegQ_eq, lenQ_eq, nthQ_eq, setQ_eq, appQ_eq, mapQ_eq, allQ_eq, anyQ_eq, dropQ_eq, takeQ_eq, revQ_eq, getDQ_eq, optLQ_eq, brecC]
  all_goals
    cases hq_1 : (alGet x lv) with
    | none =>
      try dsimp only [cond_false, cond_true]
      all_goals rfl
    | some y_3332 =>
      try dsimp only [cond_false, cond_true]
      all_goals
        cases y_3332 with
        | inl y_3333 =>
          try dsimp only [cond_false, cond_true]
          all_goals
            cases y_3333 with
            | mk y_3334 y_3335 =>
              try dsimp only [cond_false, cond_true]
              all_goals
                cases y_3334 with
                | false =>
                  try dsimp only [cond_false, cond_true]
                  all_goals
                    cases hq_5 : (Nat.blt x nL) with
                    | false =>
                      try dsimp only [cond_false, cond_true]
                      all_goals rfl
                    | true =>
                      try dsimp only [cond_false, cond_true]
                      all_goals
                        cases hq_6 : (leI lo32 m) with
                        | false =>
                          try dsimp only [cond_false, cond_true]
                          all_goals rfl
                        | true =>
                          try dsimp only [cond_false, cond_true]
                          all_goals
                            cases hq_7 : (leI m hi32) with
                            | false =>
                              try dsimp only [cond_false, cond_true]
                              all_goals rfl
                            | true =>
                              try dsimp only [cond_false, cond_true]
                              all_goals rfl
                | true =>
                  try dsimp only [cond_false, cond_true]
                  all_goals rfl
        | inr y_3336 =>
          try dsimp only [cond_false, cond_true]
          all_goals rfl
noncomputable def oGo (t : Nat) (scl : Option SL) (env : List Ct) (fin : FN) (k : KK) (st : List AV) (lv : AL) (A : AH) (pr : List PD) (nx : Nat) (tab : Tb) (fs : List Ln) (ca cb : Nat) : Bool :=
  (k t st lv A pr nx tab fs ca cb)
theorem oGo_def (t : Nat) (scl : Option SL) (env : List Ct) (fin : FN) (k : KK) (st : List AV) (lv : AL) (A : AH) (pr : List PD) (nx : Nat) (tab : Tb) (fs : List Ln) (ca cb : Nat) : oGo t scl env fin k st lv A pr nx tab fs ca cb = k t st lv A pr nx tab fs ca cb := by
  show (k t st lv A pr nx tab fs ca cb) = _
  all_goals rfl
noncomputable def oIf (c : Jvm.ClassFile.Cond) (t e : Nat) (scl : Option SL) (env : List Ct) (fin : FN) (k : KK) (st : List AV) (lv : AL) (A : AH) (pr : List PD) (nx : Nat) (tab : Tb) (fs : List Ln) (ca cb : Nat) : Bool :=
  (List.rec (motive := fun _ => Bool) false (fun x_3347 r_3348 _ => (Sum.rec (motive := fun _ => Bool) (fun x_3349 => (Prod.rec (motive := fun _ => Bool) (fun x_3351 x_3352 => (Bool.rec (motive := fun _ => Bool) (br (fun t tab fs => (k t r_3348 lv A pr nx tab fs ca cb)) c tab fs x_3352 (kL (.ofNat (nat_lit 0))) t e) false x_3351)) x_3349)) (fun x_3350 => (Sum.rec (motive := fun _ => Bool) (fun x_3353 => false) (fun x_3354 => (Prod.rec (motive := fun _ => Bool) (fun p_3355 q_3356 => (brC (fun t tab fs => (k t r_3348 lv A pr nx tab fs ca cb)) c tab fs p_3355 q_3356 t e)) x_3354)) x_3350)) x_3347)) st)
theorem oIf_def (c : Jvm.ClassFile.Cond) (t e : Nat) (scl : Option SL) (env : List Ct) (fin : FN) (k : KK) (st : List AV) (lv : AL) (A : AH) (pr : List PD) (nx : Nat) (tab : Tb) (fs : List Ln) (ca cb : Nat) : oIf c t e scl env fin k st lv A pr nx tab fs ca cb = (match st with
  | .inl (false, x) :: r => br (fun t tab fs => k t r lv A pr nx tab fs ca cb) c tab fs x (kL 0) t e
  | .inr (.inr (p, q)) :: r => brC (fun t tab fs => k t r lv A pr nx tab fs ca cb) c tab fs p q t e
  | _ => false) := by
  show (List.rec (motive := fun _ => Bool) false (fun x_3337 r_3338 _ => (Sum.rec (motive := fun _ => Bool) (fun x_3339 => (Prod.rec (motive := fun _ => Bool) (fun x_3341 x_3342 => (Bool.rec (motive := fun _ => Bool) (br (fun t tab fs => (k t r_3338 lv A pr nx tab fs ca cb)) c tab fs x_3342 (kL (.ofNat (nat_lit 0))) t e) false x_3341)) x_3339)) (fun x_3340 => (Sum.rec (motive := fun _ => Bool) (fun x_3343 => false) (fun x_3344 => (Prod.rec (motive := fun _ => Bool) (fun p_3345 q_3346 => (brC (fun t tab fs => (k t r_3338 lv A pr nx tab fs ca cb)) c tab fs p_3345 q_3346 t e)) x_3344)) x_3340)) x_3337)) st) = _
  try simp only [iAddQ_eq, iMulQ_eq, iNegQ_eq, lenQ_eq, nthQ_eq, setQ_eq, appQ_eq, mapQ_eq, allQ_eq, anyQ_eq, dropQ_eq, takeQ_eq, revQ_eq, getDQ_eq, optLQ_eq, brecC]
  all_goals
    cases st with
    | nil =>
      try dsimp only [cond_false, cond_true]
      all_goals rfl
    | cons y_3357 y_3358 =>
      try dsimp only [cond_false, cond_true]
      all_goals
        cases y_3357 with
        | inl y_3359 =>
          try dsimp only [cond_false, cond_true]
          all_goals
            cases y_3359 with
            | mk y_3360 y_3361 =>
              try dsimp only [cond_false, cond_true]
              all_goals
                cases y_3360 with
                | false =>
                  try dsimp only [cond_false, cond_true]
                  all_goals rfl
                | true =>
                  try dsimp only [cond_false, cond_true]
                  all_goals rfl
        | inr y_3362 =>
          try dsimp only [cond_false, cond_true]
          all_goals
            cases y_3362 with
            | inl y_3363 =>
              try dsimp only [cond_false, cond_true]
              all_goals rfl
            | inr y_3364 =>
              try dsimp only [cond_false, cond_true]
              all_goals
                cases y_3364 with
                | mk y_3365 y_3366 =>
                  try dsimp only [cond_false, cond_true]
                  all_goals rfl
noncomputable def oIc (c : Jvm.ClassFile.Cond) (t e : Nat) (scl : Option SL) (env : List Ct) (fin : FN) (k : KK) (st : List AV) (lv : AL) (A : AH) (pr : List PD) (nx : Nat) (tab : Tb) (fs : List Ln) (ca cb : Nat) : Bool :=
  (List.rec (motive := fun _ => Bool) false (fun x_3379 x_3380 _ => (Sum.rec (motive := fun _ => Bool) (fun x_3381 => (Prod.rec (motive := fun _ => Bool) (fun x_3383 y_3384 => (Bool.rec (motive := fun _ => Bool) (List.rec (motive := fun _ => Bool) false (fun x_3385 r_3386 _ => (Sum.rec (motive := fun _ => Bool) (fun x_3387 => (Prod.rec (motive := fun _ => Bool) (fun x_3389 x_3390 => (Bool.rec (motive := fun _ => Bool) (br3 (fun t tab fs => (k t r_3386 lv A pr nx tab fs ca cb)) c tab fs x_3390 y_3384 t e) false x_3389)) x_3387)) (fun x_3388 => false) x_3385)) x_3380) false x_3383)) x_3381)) (fun x_3382 => false) x_3379)) st)
theorem oIc_def (c : Jvm.ClassFile.Cond) (t e : Nat) (scl : Option SL) (env : List Ct) (fin : FN) (k : KK) (st : List AV) (lv : AL) (A : AH) (pr : List PD) (nx : Nat) (tab : Tb) (fs : List Ln) (ca cb : Nat) : oIc c t e scl env fin k st lv A pr nx tab fs ca cb = (match st with
  | .inl (false, y) :: .inl (false, x) :: r => br3 (fun t tab fs => k t r lv A pr nx tab fs ca cb) c tab fs x y t e
  | _ => false) := by
  show (List.rec (motive := fun _ => Bool) false (fun x_3367 x_3368 _ => (Sum.rec (motive := fun _ => Bool) (fun x_3369 => (Prod.rec (motive := fun _ => Bool) (fun x_3371 y_3372 => (Bool.rec (motive := fun _ => Bool) (List.rec (motive := fun _ => Bool) false (fun x_3373 r_3374 _ => (Sum.rec (motive := fun _ => Bool) (fun x_3375 => (Prod.rec (motive := fun _ => Bool) (fun x_3377 x_3378 => (Bool.rec (motive := fun _ => Bool) (br3 (fun t tab fs => (k t r_3374 lv A pr nx tab fs ca cb)) c tab fs x_3378 y_3372 t e) false x_3377)) x_3375)) (fun x_3376 => false) x_3373)) x_3368) false x_3371)) x_3369)) (fun x_3370 => false) x_3367)) st) = _
  try simp only [iAddQ_eq, iMulQ_eq, iNegQ_eq, lenQ_eq, nthQ_eq, setQ_eq, appQ_eq, mapQ_eq, allQ_eq, anyQ_eq, dropQ_eq, takeQ_eq, revQ_eq, getDQ_eq, optLQ_eq, brecC]
  all_goals
    cases st with
    | nil =>
      try dsimp only [cond_false, cond_true]
      all_goals rfl
    | cons y_3391 y_3392 =>
      try dsimp only [cond_false, cond_true]
      all_goals
        cases y_3391 with
        | inl y_3393 =>
          try dsimp only [cond_false, cond_true]
          all_goals
            cases y_3393 with
            | mk y_3394 y_3395 =>
              try dsimp only [cond_false, cond_true]
              all_goals
                cases y_3394 with
                | false =>
                  try dsimp only [cond_false, cond_true]
                  all_goals
                    cases y_3392 with
                    | nil =>
                      try dsimp only [cond_false, cond_true]
                      all_goals rfl
                    | cons y_3396 y_3397 =>
                      try dsimp only [cond_false, cond_true]
                      all_goals
                        cases y_3396 with
                        | inl y_3398 =>
                          try dsimp only [cond_false, cond_true]
                          all_goals
                            cases y_3398 with
                            | mk y_3399 y_3400 =>
                              try dsimp only [cond_false, cond_true]
                              all_goals
                                cases y_3399 with
                                | false =>
                                  try dsimp only [cond_false, cond_true]
                                  all_goals rfl
                                | true =>
                                  try dsimp only [cond_false, cond_true]
                                  all_goals rfl
                        | inr y_3401 =>
                          try dsimp only [cond_false, cond_true]
                          all_goals rfl
                | true =>
                  try dsimp only [cond_false, cond_true]
                  all_goals rfl
        | inr y_3402 =>
          try dsimp only [cond_false, cond_true]
          all_goals rfl
noncomputable def o3 (n : Nat) (f : Option SL → Tb → List Ln → AH → List AV → Option SV) (scl : Option SL) (env : List Ct) (fin : FN) (k : KK) (st : List AV) (lv : AL) (A : AH) (pr : List PD) (nx : Nat) (tab : Tb) (fs : List Ln) (ca cb : Nat) : Bool :=
  (Option.rec (motive := fun _ => Bool) false (fun x_3406 => (Prod.rec (motive := fun _ => Bool) (fun rest_3407 r_3408 => (pushR nx tab fs r_3408 (fun nx tab fs v => (k n (v :: rest_3407) lv A pr nx tab fs ca cb)))) x_3406)) (f scl tab fs A st))
theorem o3_def (n : Nat) (f : Option SL → Tb → List Ln → AH → List AV → Option SV) (scl : Option SL) (env : List Ct) (fin : FN) (k : KK) (st : List AV) (lv : AL) (A : AH) (pr : List PD) (nx : Nat) (tab : Tb) (fs : List Ln) (ca cb : Nat) : o3 n f scl env fin k st lv A pr nx tab fs ca cb = (match f scl tab fs A st with
  | some (rest, r) => pushR nx tab fs r (fun nx tab fs v => k n (v :: rest) lv A pr nx tab fs ca cb)
  | none => false) := by
  show (Option.rec (motive := fun _ => Bool) false (fun x_3403 => (Prod.rec (motive := fun _ => Bool) (fun rest_3404 r_3405 => (pushR nx tab fs r_3405 (fun nx tab fs v => (k n (v :: rest_3404) lv A pr nx tab fs ca cb)))) x_3403)) (f scl tab fs A st)) = _
  all_goals
    cases hq_1 : (f scl tab fs A st) with
    | none =>
      try dsimp only [cond_false, cond_true]
      all_goals rfl
    | some y_3409 =>
      try dsimp only [cond_false, cond_true]
      all_goals
        cases y_3409 with
        | mk y_3410 y_3411 =>
          try dsimp only [cond_false, cond_true]
          all_goals rfl
noncomputable def oLd_a0 :=
  fun (s_3419 : SL) (n : Nat) (a : Nat) (b : Nat) (k : KK) (st : List AV) (lv : AL) (A : AH) (pr : List PD) (nx : Nat) (tab : Tb) (fs : List Ln) (ca : Nat) (cb : Nat) => ((st3g (some s_3419) .iaload n a b k st lv A pr nx tab fs ca cb) : Bool)
noncomputable def oLd (n a b : Nat) (scl : Option SL) (env : List Ct) (fin : FN) (k : KK) (st : List AV) (lv : AL) (A : AH) (pr : List PD) (nx : Nat) (tab : Tb) (fs : List Ln) (ca cb : Nat) : Bool :=
  (Option.rec (motive := fun _ => Bool) (Option.rec (motive := fun _ => Bool) (Option.rec (motive := fun _ => Bool) false (fun x_3421 => (Prod.rec (motive := fun _ => Bool) (fun rest_3422 r_3423 => (pushR nx tab fs r_3423 (fun nx tab fs v => (k n (v :: rest_3422) lv A pr nx tab fs ca cb)))) x_3421)) (gaI (nat_lit 0) tab fs A st)) (fun x_3420 => (Prod.rec (motive := fun _ => Bool) (fun rest_3424 r_3425 => (pushR nx tab fs r_3425 (fun nx tab fs v => (k n (v :: rest_3424) lv A pr nx tab fs ca cb)))) x_3420)) (prLd tab fs A pr st)) (fun s_3419 => (oLd_a0 s_3419 n a b k st lv A pr nx tab fs ca cb)) scl)
theorem oLd_def (n a b : Nat) (scl : Option SL) (env : List Ct) (fin : FN) (k : KK) (st : List AV) (lv : AL) (A : AH) (pr : List PD) (nx : Nat) (tab : Tb) (fs : List Ln) (ca cb : Nat) : oLd n a b scl env fin k st lv A pr nx tab fs ca cb = (match scl with
  | none => (match prLd tab fs A pr st with
    | some (rest, r) => pushR nx tab fs r (fun nx tab fs v => k n (v :: rest) lv A pr nx tab fs ca cb)
    | none => (match gaI 0 tab fs A st with
      | some (rest, r) => pushR nx tab fs r (fun nx tab fs v => k n (v :: rest) lv A pr nx tab fs ca cb)
      | none => false))
  | some s => st3g (some s) .iaload n a b k st lv A pr nx tab fs ca cb) := by
  show (Option.rec (motive := fun _ => Bool) (Option.rec (motive := fun _ => Bool) (Option.rec (motive := fun _ => Bool) false (fun x_3414 => (Prod.rec (motive := fun _ => Bool) (fun rest_3415 r_3416 => (pushR nx tab fs r_3416 (fun nx tab fs v => (k n (v :: rest_3415) lv A pr nx tab fs ca cb)))) x_3414)) (gaI (nat_lit 0) tab fs A st)) (fun x_3413 => (Prod.rec (motive := fun _ => Bool) (fun rest_3417 r_3418 => (pushR nx tab fs r_3418 (fun nx tab fs v => (k n (v :: rest_3417) lv A pr nx tab fs ca cb)))) x_3413)) (prLd tab fs A pr st)) (fun s_3412 => (st3g (some s_3412) .iaload n a b k st lv A pr nx tab fs ca cb)) scl) = _
  all_goals
    cases scl with
    | none =>
      try dsimp only [cond_false, cond_true]
      all_goals
        cases hq_2 : (prLd tab fs A pr st) with
        | none =>
          try dsimp only [cond_false, cond_true]
          all_goals
            cases hq_3 : (gaI 0 tab fs A st) with
            | none =>
              try dsimp only [cond_false, cond_true]
              all_goals rfl
            | some y_3426 =>
              try dsimp only [cond_false, cond_true]
              all_goals
                cases y_3426 with
                | mk y_3427 y_3428 =>
                  try dsimp only [cond_false, cond_true]
                  all_goals rfl
        | some y_3429 =>
          try dsimp only [cond_false, cond_true]
          all_goals
            cases y_3429 with
            | mk y_3430 y_3431 =>
              try dsimp only [cond_false, cond_true]
              all_goals rfl
    | some y_3432 =>
      try dsimp only [cond_false, cond_true]
      all_goals rfl
noncomputable def o4_a0 :=
  fun (k : KK) (n : Nat) rest_3439 (lv : AL) A_3441 pr_3442 (nx : Nat) (tab : Tb) (fs : List Ln) (ca : Nat) (cb : Nat) => ((k n rest_3439 lv A_3441 pr_3442 nx tab fs ca cb) : Bool)
noncomputable def o4 (n : Nat) (f : Tb → List Ln → AH → List PD → List AV → Option WR) (scl : Option SL) (env : List Ct) (fin : FN) (k : KK) (st : List AV) (lv : AL) (A : AH) (pr : List PD) (nx : Nat) (tab : Tb) (fs : List Ln) (ca cb : Nat) : Bool :=
  (Option.rec (motive := fun _ => Bool) false (fun x_3438 => (Prod.rec (motive := fun _ => Bool) (fun rest_3439 x_3440 => (Prod.rec (motive := fun _ => Bool) (fun A_3441 pr_3442 => (o4_a0 k n rest_3439 lv A_3441 pr_3442 nx tab fs ca cb)) x_3440)) x_3438)) (f tab fs A pr st))
theorem o4_def (n : Nat) (f : Tb → List Ln → AH → List PD → List AV → Option WR) (scl : Option SL) (env : List Ct) (fin : FN) (k : KK) (st : List AV) (lv : AL) (A : AH) (pr : List PD) (nx : Nat) (tab : Tb) (fs : List Ln) (ca cb : Nat) : o4 n f scl env fin k st lv A pr nx tab fs ca cb = (match f tab fs A pr st with
  | some (rest, A', pr') => k n rest lv A' pr' nx tab fs ca cb
  | none => false) := by
  show (Option.rec (motive := fun _ => Bool) false (fun x_3433 => (Prod.rec (motive := fun _ => Bool) (fun rest_3434 x_3435 => (Prod.rec (motive := fun _ => Bool) (fun A_3436 pr_3437 => (k n rest_3434 lv A_3436 pr_3437 nx tab fs ca cb)) x_3435)) x_3433)) (f tab fs A pr st)) = _
  all_goals
    cases hq_1 : (f tab fs A pr st) with
    | none =>
      try dsimp only [cond_false, cond_true]
      all_goals rfl
    | some y_3443 =>
      try dsimp only [cond_false, cond_true]
      all_goals
        cases y_3443 with
        | mk y_3444 y_3445 =>
          try dsimp only [cond_false, cond_true]
          all_goals
            cases y_3445 with
            | mk y_3446 y_3447 =>
              try dsimp only [cond_false, cond_true]
              all_goals rfl
section OPS
variable {ini : Bool} {o nL pc len a b w : Nat} {i : Instr}
theorem oS_app (e : XE) (scl : Option SL) (env : List Ct) (fin : FN) (k : KK) (st : List AV) (lv : AL) (A : AH) (pr : List PD) (nx : Nat) (tab : Tb) (fs : List Ln) (ca cb : Nat) : oS ini o nL pc e scl env fin k st lv A pr nx tab fs ca cb = step scl ini o nL env fin k e pc st lv A pr nx tab fs ca cb := rfl
theorem o0_eq {f : Tb → List Ln → AL → List AV → Option SV} (hf : ∀ tab fs lv st, g0 i a tab fs lv st = f tab fs lv st) : o0 (Nat.add pc len) f = oS ini o nL pc (i, len, 0, a, b, w) := by
  funext scl env fin k st lv A pr nx tab fs ca cb
  rw [oS_app]
  rw [o0_def]
  show _ = st0 i (Nat.add pc len) a k st lv A pr nx tab fs ca cb
  unfold st0
  rw [hf]
  cases f tab fs lv st with
  | none => rfl
  | some q => obtain ⟨rest, r⟩ := q; rfl
theorem oK_eq {v : AV} (hf : ∀ tab fs lv st, g0 i a tab fs lv st = some (st, .inl v)) : oK (Nat.add pc len) v = oS ini o nL pc (i, len, 0, a, b, w) := by
  funext scl env fin k st lv A pr nx tab fs ca cb
  rw [oS_app]
  rw [oK_def]
  show _ = st0 i (Nat.add pc len) a k st lv A pr nx tab fs ca cb
  unfold st0
  rw [hf]
  rfl
theorem o1_eq {f : Nat → List AV → AL → Option (List AV × AL)} (hi : ∀ x m, i ≠ .iinc x m) (hf : ∀ N st lv, g1 i nL N st lv = f N st lv) : o1 (Nat.add pc len) f = oS ini o nL pc (i, len, 1, a, b, w) := by
  funext scl env fin k st lv A pr nx tab fs ca cb
  rw [oS_app]
  show _ = st1 i (Nat.add pc len) nL k st lv A pr nx tab fs ca cb
  unfold st1
  split
  · exact absurd rfl (hi _ _)
  · rw [hf]
    rw [o1_def]
    cases f A.length st lv with
    | none => rfl
    | some q => obtain ⟨rest, r⟩ := q; rfl
theorem oInc_eq {x : Nat} {m : Int} : oInc (Nat.add pc len) nL x m = oS ini o nL pc (.iinc x m, len, 1, a, b, w) := by
  funext scl env fin k st lv A pr nx tab fs ca cb
  rw [oS_app]
  rw [oInc_def]
  show _ = st1 (.iinc x m) (Nat.add pc len) nL k st lv A pr nx tab fs ca cb
  unfold st1
  try dsimp only
  cases alGet x lv with
  | none => rfl
  | some q => match q with
    | .inr _ => rfl
    | .inl (true, e) => rfl
    | .inl (false, e) => rfl
theorem oGo_eq {off : Int} {t : Nat} (h : jmpA pc off = some t) : oGo t = oS ini o nL pc (.goto off, len, 2, a, b, w) := by
  funext scl env fin k st lv A pr nx tab fs ca cb
  rw [oS_app]
  rw [oGo_def]
  show _ = g2 (fun t st tab fs => k t st lv A pr nx tab fs ca cb) (.goto off) pc tab fs st
  simp only [g2]
  rw [h]
  rfl
theorem oIf_eq {c : Jvm.ClassFile.Cond} {off : Int} {t : Nat} (h : jmpA pc off = some t) : oIf c t (Nat.add pc 3) = oS ini o nL pc (.ifCond c off, len, 2, a, b, w) := by
  funext scl env fin k st lv A pr nx tab fs ca cb
  rw [oS_app]
  rw [oIf_def]
  show _ = g2 (fun t st tab fs => k t st lv A pr nx tab fs ca cb) (.ifCond c off) pc tab fs st
  simp only [g2]
  rw [h]
  unfold onJ
  try dsimp only
  match st with
  | [] => rfl
  | .inl (true, x) :: r => rfl
  | .inl (false, x) :: r => rfl
  | .inr (.inl q) :: r => rfl
  | .inr (.inr (p, q)) :: r => rfl
theorem oIc_eq {c : Jvm.ClassFile.Cond} {off : Int} {t : Nat} (h : jmpA pc off = some t) : oIc c t (Nat.add pc 3) = oS ini o nL pc (.if_icmp c off, len, 2, a, b, w) := by
  funext scl env fin k st lv A pr nx tab fs ca cb
  rw [oS_app]
  rw [oIc_def]
  show _ = g2 (fun t st tab fs => k t st lv A pr nx tab fs ca cb) (.if_icmp c off) pc tab fs st
  simp only [g2]
  rw [h]
  unfold onJ
  try dsimp only
  match st with
  | [] => rfl
  | .inl (true, x) :: r => rfl
  | .inr q :: r => rfl
  | [.inl (false, x)] => rfl
  | .inl (false, x) :: .inr q :: r => rfl
  | .inl (false, x) :: .inl (true, y) :: r => rfl
  | .inl (false, x) :: .inl (false, y) :: r => rfl
theorem o3_eq {f : Option SL → Tb → List Ln → AH → List AV → Option SV} (hi : i ≠ .aaload) (hi2 : i ≠ .iaload) (hf : ∀ scl tab fs A st, g3 scl i a b tab fs A st = f scl tab fs A st) : o3 (Nat.add pc len) f = oS ini o nL pc (i, len, 3, a, b, w) := by
  funext scl env fin k st lv A pr nx tab fs ca cb
  rw [oS_app]
  show _ = st3 scl i (Nat.add pc len) a b k st lv A pr nx tab fs ca cb
  unfold st3
  split
  · exact absurd rfl hi
  · exact absurd rfl hi2
  · unfold st3g
    rw [hf]
    rw [o3_def]
    cases f scl tab fs A st with
    | none => rfl
    | some q => obtain ⟨rest, r⟩ := q; rfl
theorem oLd_eq : oLd (Nat.add pc len) a b = oS ini o nL pc (.iaload, len, 3, a, b, w) := by
  funext scl env fin k st lv A pr nx tab fs ca cb
  rw [oS_app]
  show _ = st3l scl (Nat.add pc len) a b k st lv A pr nx tab fs ca cb
  rw [oLd_def]
  unfold st3l
  cases scl with
  | some s => rfl
  | none =>
    try dsimp only
    cases prLd tab fs A pr st with
    | some q => obtain ⟨rest, r⟩ := q; rfl
    | none =>
      try dsimp only
      unfold st3g
      simp only [g3]
      cases gaI 0 tab fs A st with
      | none => rfl
      | some q => obtain ⟨rest, r⟩ := q; rfl
theorem o4_eq {f : Tb → List Ln → AH → List PD → List AV → Option WR} (hf : ∀ tab fs A pr st, g4 ini o i a b tab fs A pr st = f tab fs A pr st) : o4 (Nat.add pc len) f = oS ini o nL pc (i, len, 4, a, b, w) := by
  funext scl env fin k st lv A pr nx tab fs ca cb
  rw [oS_app]
  rw [o4_def]
  show _ = st4 ini o i (Nat.add pc len) a b k st lv A pr nx tab fs ca cb
  unfold st4
  rw [hf]
  cases f tab fs A pr st with
  | none => rfl
  | some q => obtain ⟨rest, A', pr'⟩ := q; rfl
end OPS
noncomputable def c0 (n a : Nat) (i : Instr) (d : Option SF) : Option SF := match i with
  | .iconst v => bif leI lo32 v then (bif leI v hi32 then frcI v (fun v => some (oK n (.inl (false, (v, []))))) else d) else d
  | .bipush v => bif leI (.negSucc 127) v then (bif leI v (.ofNat 127) then frcI v (fun v => some (oK n (.inl (false, (v, []))))) else d) else d
  | .sipush v => bif leI (.negSucc 32767) v then (bif leI v (.ofNat 32767) then frcI v (fun v => some (oK n (.inl (false, (v, []))))) else d) else d
  | .lconst v => frcI (Int.ofNat (v : Nat)) (fun v => some (oK n (.inl (true, (v, [])))))
  | .ldc _ => frcI (cI a).toInt (fun v => some (oK n (.inl (false, (v, [])))))
  | .ldc_w _ => frcI (cI a).toInt (fun v => some (oK n (.inl (false, (v, [])))))
  | .ldc2_w _ => frcI (cL a).toInt (fun v => some (oK n (.inl (true, (v, [])))))
  | .iload x => some (o0 n (fun _ _ lv st => ldN false lv x st))
  | .iload_n x => frc (x : Nat) (fun x => some (o0 n (fun _ _ lv st => ldN false lv x st)))
  | .lload x => some (o0 n (fun _ _ lv st => ldN true lv x st))
  | .lload_n x => frc (x : Nat) (fun x => some (o0 n (fun _ _ lv st => ldN true lv x st)))
  | .aload x => some (o0 n (fun _ _ lv st => ldR lv x st))
  | .aload_n x => frc (x : Nat) (fun x => some (o0 n (fun _ _ lv st => ldR lv x st)))
  | .iadd => some (o0 n (fun tab _ _ st => b2 (aAdd tab) st))
  | .isub => some (o0 n (fun tab _ _ st => b2 (aSub tab) st))
  | .imul => some (o0 n (fun tab _ _ st => b2 (aMul tab) st))
  | .iand => some (o0 n (fun tab _ _ st => b2 (aAnd tab) st))
  | .ladd => some (o0 n (fun tab _ _ st => l2 (lAdd tab) st))
  | .lsub => some (o0 n (fun tab _ _ st => l2 (lSub tab) st))
  | .lmul => some (o0 n (fun tab _ _ st => l2 (lMul tab) st))
  | .idiv => some (o0 n (fun tab fs _ st => b2o (aDiv tab fs) st))
  | .irem => some (o0 n (fun tab fs _ st => b2o (aRem tab fs) st))
  | _ => d
noncomputable def c1 (n nL : Nat) (i : Instr) (d : Option SF) : Option SF := match i with
  | .istore x => some (o1 n (fun _ st lv => gs1 nL x st lv))
  | .istore_n x => frc (x : Nat) (fun x => some (o1 n (fun _ st lv => gs1 nL x st lv)))
  | .lstore x => some (o1 n (fun _ st lv => gs2 nL x st lv))
  | .lstore_n x => frc (x : Nat) (fun x => some (o1 n (fun _ st lv => gs2 nL x st lv)))
  | .astore x => some (o1 n (fun N st lv => gs3 nL N x st lv))
  | .astore_n x => frc (x : Nat) (fun x => some (o1 n (fun N st lv => gs3 nL N x st lv)))
  | .iinc x m => frcI m (fun m => some (oInc n nL x m))
  | _ => d
noncomputable def c2 (pc : Nat) (i : Instr) (d : Option SF) : Option SF := match i with
  | .goto off => (match jmpA pc off with
    | some t => frc t (fun t => some (oGo t))
    | none => d)
  | .ifCond c off => (match jmpA pc off with
    | some t => frc t (fun t => frc (Nat.add pc 3) (fun e => some (oIf c t e)))
    | none => d)
  | .if_icmp c off => (match jmpA pc off with
    | some t => frc t (fun t => frc (Nat.add pc 3) (fun e => some (oIc c t e)))
    | none => d)
  | _ => d
noncomputable def c3 (n a b : Nat) (i : Instr) (d : Option SF) : Option SF := match i with
  | .getfield _ => some (o3 n (fun _ _ _ A st => gF a b A st))
  | .iaload => some (oLd n a b)
  | .caload => some (o3 n (fun _ tab fs A st => gaI 2 tab fs A st))
  | .baload => some (o3 n (fun _ tab fs A st => gaI 3 tab fs A st))
  | _ => d
noncomputable def c4 (n : Nat) (ini : Bool) (o a b : Nat) (i : Instr) (d : Option SF) : Option SF := match i with
  | .putfield _ => some (o4 n (fun _ _ A pr st => gP ini o a b A pr st))
  | .iastore => some (o4 n (fun tab fs A pr st => gwI 0 lo32 hi32 tab fs A pr st))
  | .castore => some (o4 n (fun tab fs A pr st => gwI 2 (.ofNat 0) (.ofNat 65535) tab fs A pr st))
  | .bastore => some (o4 n (fun tab fs A pr st => gwI 3 (.ofNat 0) (.ofNat 1) tab fs A pr st))
  | _ => d
noncomputable def cmpF (ini : Bool) (o nL pc : Nat) (e : XE) : Option SF := match e with
  | (i, len, 0, a, _, _) => frc (Nat.add pc len) (fun n => c0 n a i (some (oS ini o nL pc e)))
  | (i, len, 1, _, _, _) => frc (Nat.add pc len) (fun n => c1 n nL i (some (oS ini o nL pc e)))
  | (i, _, 2, _, _, _) => c2 pc i (some (oS ini o nL pc e))
  | (i, len, 3, a, b, _) => frc (Nat.add pc len) (fun n => c3 n a b i (some (oS ini o nL pc e)))
  | (i, len, 4, a, b, _) => frc (Nat.add pc len) (fun n => c4 n ini o a b i (some (oS ini o nL pc e)))
  | _ => some (oS ini o nL pc e)
section CMP
variable {ini : Bool} {o nL pc len a b w : Nat} {i : Instr}
theorem c0_ok : c0 (Nat.add pc len) a i (some (oS ini o nL pc (i, len, 0, a, b, w))) = some (oS ini o nL pc (i, len, 0, a, b, w)) := by
  have kk : ∀ {lo hi v : Int} {i : Instr}, (∀ tab fs lv st, g0 i a tab fs lv st = kI lo hi v st) → (bif leI lo v then (bif leI v hi then frcI v (fun v => some (oK (Nat.add pc len) (.inl (false, (v, []))))) else some (oS ini o nL pc (i, len, 0, a, b, w))) else some (oS ini o nL pc (i, len, 0, a, b, w))) = some (oS ini o nL pc (i, len, 0, a, b, w)) := by
    intro lo hi v i hg
    cases h1 : leI lo v with
    | false => rfl
    | true =>
      cases h2 : leI v hi with
      | false => rfl
      | true =>
        simp only [cond_true]
        rw [frcI_eq]
        refine congrArg some (oK_eq (fun tab fs lv st => ?_))
        rw [hg]
        unfold kI
        rw [h1, h2]
        rfl
  cases i with
  | iconst v => exact kk (fun _ _ _ _ => rfl)
  | bipush v => exact kk (fun _ _ _ _ => rfl)
  | sipush v => exact kk (fun _ _ _ _ => rfl)
  | lconst v => unfold c0; dsimp only; rw [frcI_eq]; exact congrArg some (oK_eq (fun _ _ _ _ => rfl))
  | ldc v => unfold c0; dsimp only; rw [frcI_eq]; exact congrArg some (oK_eq (fun _ _ _ _ => rfl))
  | ldc_w v => unfold c0; dsimp only; rw [frcI_eq]; exact congrArg some (oK_eq (fun _ _ _ _ => rfl))
  | ldc2_w v => unfold c0; dsimp only; rw [frcI_eq]; exact congrArg some (oK_eq (fun _ _ _ _ => rfl))
  | iload v => exact congrArg some (o0_eq (fun _ _ _ _ => rfl))
  | iload_n v => unfold c0; dsimp only; rw [frc_eq]; exact congrArg some (o0_eq (fun _ _ _ _ => rfl))
  | lload v => exact congrArg some (o0_eq (fun _ _ _ _ => rfl))
  | lload_n v => unfold c0; dsimp only; rw [frc_eq]; exact congrArg some (o0_eq (fun _ _ _ _ => rfl))
  | aload v => exact congrArg some (o0_eq (fun _ _ _ _ => rfl))
  | aload_n v => unfold c0; dsimp only; rw [frc_eq]; exact congrArg some (o0_eq (fun _ _ _ _ => rfl))
  | iadd => exact congrArg some (o0_eq (fun _ _ _ _ => rfl))
  | isub => exact congrArg some (o0_eq (fun _ _ _ _ => rfl))
  | imul => exact congrArg some (o0_eq (fun _ _ _ _ => rfl))
  | iand => exact congrArg some (o0_eq (fun _ _ _ _ => rfl))
  | ladd => exact congrArg some (o0_eq (fun _ _ _ _ => rfl))
  | lsub => exact congrArg some (o0_eq (fun _ _ _ _ => rfl))
  | lmul => exact congrArg some (o0_eq (fun _ _ _ _ => rfl))
  | idiv => exact congrArg some (o0_eq (fun _ _ _ _ => rfl))
  | irem => exact congrArg some (o0_eq (fun _ _ _ _ => rfl))
  | _ => rfl
theorem c1_ok : c1 (Nat.add pc len) nL i (some (oS ini o nL pc (i, len, 1, a, b, w))) = some (oS ini o nL pc (i, len, 1, a, b, w)) := by
  cases i with
  | istore x => exact congrArg some (o1_eq (i := .istore x) (fun _ _ h => by cases h) (fun _ _ _ => rfl))
  | istore_n x => unfold c1; dsimp only; rw [frc_eq]; exact congrArg some (o1_eq (fun _ _ h => by cases h) (fun _ _ _ => rfl))
  | lstore x => exact congrArg some (o1_eq (i := .lstore x) (fun _ _ h => by cases h) (fun _ _ _ => rfl))
  | lstore_n x => unfold c1; dsimp only; rw [frc_eq]; exact congrArg some (o1_eq (fun _ _ h => by cases h) (fun _ _ _ => rfl))
  | astore x => exact congrArg some (o1_eq (i := .astore x) (fun _ _ h => by cases h) (fun _ _ _ => rfl))
  | astore_n x => unfold c1; dsimp only; rw [frc_eq]; exact congrArg some (o1_eq (fun _ _ h => by cases h) (fun _ _ _ => rfl))
  | iinc x m => unfold c1; dsimp only; rw [frcI_eq]; exact congrArg some (oInc_eq)
  | _ => rfl
theorem c2_ok : c2 pc i (some (oS ini o nL pc (i, len, 2, a, b, w))) = some (oS ini o nL pc (i, len, 2, a, b, w)) := by
  cases i with
  | goto off =>
    unfold c2
    try dsimp only
    cases h : jmpA pc off with
    | none => rfl
    | some t => dsimp only; rw [frc_eq]; exact congrArg some (oGo_eq h)
  | ifCond c off =>
    unfold c2
    try dsimp only
    cases h : jmpA pc off with
    | none => rfl
    | some t => dsimp only; rw [frc_eq, frc_eq]; exact congrArg some (oIf_eq h)
  | if_icmp c off =>
    unfold c2
    try dsimp only
    cases h : jmpA pc off with
    | none => rfl
    | some t => dsimp only; rw [frc_eq, frc_eq]; exact congrArg some (oIc_eq h)
  | _ => rfl
theorem c3_ok : c3 (Nat.add pc len) a b i (some (oS ini o nL pc (i, len, 3, a, b, w))) = some (oS ini o nL pc (i, len, 3, a, b, w)) := by
  cases i with
  | getfield x => exact congrArg some (o3_eq (fun h => by cases h) (fun h => by cases h) (fun _ _ _ _ _ => rfl))
  | iaload => exact congrArg some oLd_eq
  | caload => exact congrArg some (o3_eq (fun h => by cases h) (fun h => by cases h) (fun _ _ _ _ _ => rfl))
  | baload => exact congrArg some (o3_eq (fun h => by cases h) (fun h => by cases h) (fun _ _ _ _ _ => rfl))
  | _ => rfl
theorem c4_ok : c4 (Nat.add pc len) ini o a b i (some (oS ini o nL pc (i, len, 4, a, b, w))) = some (oS ini o nL pc (i, len, 4, a, b, w)) := by
  cases i with
  | putfield x => exact congrArg some (o4_eq (fun _ _ _ _ _ => rfl))
  | iastore => exact congrArg some (o4_eq (fun _ _ _ _ _ => rfl))
  | castore => exact congrArg some (o4_eq (fun _ _ _ _ _ => rfl))
  | bastore => exact congrArg some (o4_eq (fun _ _ _ _ _ => rfl))
  | _ => rfl
theorem cmpF_ok (e : XE) : cmpF ini o nL pc e = some (oS ini o nL pc e) := by
  obtain ⟨i, len, g, a, b, w⟩ := e
  unfold cmpF
  split
  · rename_i h; cases h; rw [frc_eq]; exact c0_ok
  · rename_i h; cases h; rw [frc_eq]; exact c1_ok
  · rename_i h; cases h; exact c2_ok
  · rename_i h; cases h; rw [frc_eq]; exact c3_ok
  · rename_i h; cases h; rw [frc_eq]; exact c4_ok
  · rfl
end CMP
noncomputable def tbGQ (tb : List (List (Option XE))) (pc : Nat) : Option XE := Option.rec (motive := fun _ => Option XE) none (fun r => Option.rec (motive := fun _ => Option XE) none (fun x => x) (nthQ r (Nat.mod pc 16))) (nthQ tb (Nat.div pc 16))
theorem tbGQ_eq (tb : List (List (Option XE))) (pc : Nat) : tbGQ tb pc = tbGet tb pc := by
  unfold tbGQ tbGet
  rw [nthQ_eq, show Nat.div pc 16 = pc / 16 from rfl]
  cases tb[pc / 16]? with
  | none => rfl
  | some r =>
    show Option.rec (motive := fun _ => Option XE) none (fun x => x) (nthQ r (Nat.mod pc 16)) = (r[pc % 16]?).bind id
    rw [nthQ_eq, show Nat.mod pc 16 = pc % 16 from rfl]
    cases r[pc % 16]? with
    | none => rfl
    | some x => rfl
noncomputable def opAt (ini : Bool) (o nL : Nat) (tb : List (List (Option XE))) (pc : Nat) : Option SF :=
  (Option.rec (motive := fun _ => Option SF) none (fun e_3449 => (cmpF ini o nL pc e_3449)) (tbGQ tb pc))
theorem opAt_def (ini : Bool) (o nL : Nat) (tb : List (List (Option XE))) (pc : Nat) : opAt ini o nL tb pc = (match tbGQ tb pc with
  | some e => cmpF ini o nL pc e
  | none => none) := by
  show (Option.rec (motive := fun _ => Option SF) none (fun e_3448 => (cmpF ini o nL pc e_3448)) (tbGQ tb pc)) = _
  try simp only [iAddQ_eq, iMulQ_eq, iNegQ_eq, lenQ_eq, nthQ_eq, setQ_eq, appQ_eq, mapQ_eq, allQ_eq, anyQ_eq, dropQ_eq, takeQ_eq, revQ_eq, getDQ_eq, optLQ_eq, brecC]
  all_goals
    cases hq_1 : (tbGQ tb pc) with
    | none =>
      try dsimp only [cond_false, cond_true]
      all_goals rfl
    | some y_3450 =>
      try dsimp only [cond_false, cond_true]
      all_goals rfl
noncomputable def goH (scl : Option SL) (ini : Bool) (o nL : Nat) (tb : List (List (Option XE))) (env : List Ct) (fin : FN) (hn : HN) (k : KK) (pc : Nat) (st : List AV) (lv : AL) (A : AH) (pr : List PD) (nx : Nat) (tab : Tb) (fs : List Ln) (ca cb : Nat) : Bool := match macAt scl hn.2.1 nL tb pc st lv A pr nx tab fs with
  | some (pc', st', lv', A', pr', nx', tab', fs') => k pc' st' lv' A' pr' nx' tab' fs' ca cb
  | none => match tbGQ tb pc with
    | some e => (match hn.1 pc lv A pr nx tab fs with
      | none => step scl ini o nL env fin k e pc st lv A pr nx tab fs ca cb
      | some L => hAll (fun A pr nx tab fs => step scl ini o nL env fin k e pc st lv A pr nx tab fs ca cb) L)
    | none => false
noncomputable def goB_a0 :=
  fun (f_3452 : SF) (scl : Option SL) (env : List Ct) (fin : FN) (k : KK) (st : List AV) (lv : AL) (A : AH) (pr : List PD) (nx : Nat) (tab : Tb) (fs : List Ln) (ca : Nat) (cb : Nat) => ((f_3452 scl env fin k st lv A pr nx tab fs ca cb) : Bool)
noncomputable def goB_a1 :=
  fun (scl : Option SL) (ini : Bool) (o : Nat) (nL : Nat) (tb : List (List (Option XE))) (env : List Ct) (fin : FN) (hn : HN) (k : KK) (pc : Nat) (st : List AV) (lv : AL) (A : AH) (pr : List PD) (nx : Nat) (tab : Tb) (fs : List Ln) (ca : Nat) (cb : Nat) => ((goH scl ini o nL tb env fin hn k pc st lv A pr nx tab fs ca cb) : Bool)
noncomputable def goB (scl : Option SL) (ini : Bool) (o nL : Nat) (tb : List (List (Option XE))) (env : List Ct) (fin : FN) (hn : HN) (k : KK) (pc : Nat) (st : List AV) (lv : AL) (A : AH) (pr : List PD) (nx : Nat) (tab : Tb) (fs : List Ln) (ca cb : Nat) : Bool :=
  (Bool.rec (motive := fun _ => Bool) (Option.rec (motive := fun _ => Bool) false (fun f_3452 => (goB_a0 f_3452 scl env fin k st lv A pr nx tab fs ca cb)) (opAt ini o nL tb pc)) (goB_a1 scl ini o nL tb env fin hn k pc st lv A pr nx tab fs ca cb) (isPt hn.2.2.2.1 pc))
theorem goB_def (scl : Option SL) (ini : Bool) (o nL : Nat) (tb : List (List (Option XE))) (env : List Ct) (fin : FN) (hn : HN) (k : KK) (pc : Nat) (st : List AV) (lv : AL) (A : AH) (pr : List PD) (nx : Nat) (tab : Tb) (fs : List Ln) (ca cb : Nat) : goB scl ini o nL tb env fin hn k pc st lv A pr nx tab fs ca cb = (bif isPt hn.2.2.2.1 pc then goH scl ini o nL tb env fin hn k pc st lv A pr nx tab fs ca cb else (match opAt ini o nL tb pc with
  | some f => f scl env fin k st lv A pr nx tab fs ca cb
  | none => false)) := by
  show (Bool.rec (motive := fun _ => Bool) (Option.rec (motive := fun _ => Bool) false (fun f_3451 => (f_3451 scl env fin k st lv A pr nx tab fs ca cb)) (opAt ini o nL tb pc)) (goH scl ini o nL tb env fin hn k pc st lv A pr nx tab fs ca cb) (isPt hn.2.2.2.1 pc)) = _
  try simp only [iAddQ_eq, iMulQ_eq, iNegQ_eq, lenQ_eq, nthQ_eq, setQ_eq, appQ_eq, mapQ_eq, allQ_eq, anyQ_eq, dropQ_eq, takeQ_eq, revQ_eq, getDQ_eq, optLQ_eq, brecC]
  all_goals
    cases hq_1 : (isPt hn.2.2.2.1 pc) with
    | false =>
      try dsimp only [cond_false, cond_true]
      all_goals
        cases hq_2 : (opAt ini o nL tb pc) with
        | none =>
          try dsimp only [cond_false, cond_true]
          all_goals rfl
        | some y_3453 =>
          try dsimp only [cond_false, cond_true]
          all_goals rfl
    | true =>
      try dsimp only [cond_false, cond_true]
      all_goals rfl
noncomputable def goF_a0 :=
  fun (scl : Option SL) (ini : Bool) (o : Nat) (nL : Nat) (tb : List (List (Option XE))) (env : List Ct) (fin : FN) (hn : HN) (ih : Bool → Nat → List AV → AL → AH → List PD → Nat → Tb → List Ln → Nat → Nat → Bool) (e_2 : Nat) (e_3 : List AV) (e_4 : AL) (e_5 : AH) (e_6 : List PD) (e_7 : Nat) (e_8 : Tb) (e_9 : List Ln) (e_10 : Nat) (e_11 : Nat) => ((goB scl ini o nL tb env fin hn (ih false) e_2 e_3 e_4 e_5 e_6 e_7 e_8 e_9 e_10 e_11) : Bool)
noncomputable def goF_a1 :=
  fun (hn : HN) (G : List Ln) (rk : Option Ln) (e_2 : Nat) (e_3 : List AV) (e_4 : AL) (e_5 : AH) (e_6 : List PD) (e_8 : Tb) (e_9 : List Ln) (e_10 : Nat) (e_11 : Nat) (pts : List PE) => ((anyPt hn.2.2.2.2 G rk e_2 e_3 e_4 e_5 e_6 e_8 e_9 e_10 e_11 pts) : Bool)
noncomputable def goF_a2 :=
  fun (scl : Option SL) (ini : Bool) (o : Nat) (nL : Nat) (tb : List (List (Option XE))) (env : List Ct) (fin : FN) (hn : HN) (ih : Bool → Nat → List AV → AL → AH → List PD → Nat → Tb → List Ln → Nat → Nat → Bool) (e_2 : Nat) (e_3 : List AV) (e_4 : AL) (e_5 : AH) (e_6 : List PD) (e_7 : Nat) (e_8 : Tb) (e_9 : List Ln) (e_10 : Nat) (e_11 : Nat) (G : List Ln) (rk : Option Ln) (pts : List PE) (e_1 : Bool) => ((Bool.rec (motive := fun _ => Bool) (goF_a0 scl ini o nL tb env fin hn ih e_2 e_3 e_4 e_5 e_6 e_7 e_8 e_9 e_10 e_11) (goF_a1 hn G rk e_2 e_3 e_4 e_5 e_6 e_8 e_9 e_10 e_11 pts) (Bool.rec (motive := fun _ => Bool) (isPt hn.2.2.1 e_2) false e_1)) : Bool)
noncomputable def goF (scl : Option SL) (ini : Bool) (o nL : Nat) (tb : List (List (Option XE))) (env : List Ct) (pts : List PE) (G : List Ln) (rk : Option Ln) (fin : FN) (hn : HN) : Nat → Bool → Nat → List AV → AL → AH → List PD → Nat → Tb → List Ln → Nat → Nat → Bool :=
  fun e_0 e_1 e_2 e_3 e_4 e_5 e_6 e_7 e_8 e_9 e_10 e_11 => Nat.rec (motive := fun _ => Bool → Nat → List AV → AL → AH → List PD → Nat → Tb → List Ln → Nat → Nat → Bool) (fun e_1 e_2 e_3 e_4 e_5 e_6 e_7 e_8 e_9 e_10 e_11 => false) (fun t_0 ih e_1 e_2 e_3 e_4 e_5 e_6 e_7 e_8 e_9 e_10 e_11 => (goF_a2 scl ini o nL tb env fin hn ih e_2 e_3 e_4 e_5 e_6 e_7 e_8 e_9 e_10 e_11 G rk pts e_1)) e_0 e_1 e_2 e_3 e_4 e_5 e_6 e_7 e_8 e_9 e_10 e_11
theorem goF_def (scl : Option SL) (ini : Bool) (o nL : Nat) (tb : List (List (Option XE))) (env : List Ct) (pts : List PE) (G : List Ln) (rk : Option Ln) (fin : FN) (hn : HN) (e_0 : Nat) (e_1 : Bool) (e_2 : Nat) (e_3 : List AV) (e_4 : AL) (e_5 : AH) (e_6 : List PD) (e_7 : Nat) (e_8 : Tb) (e_9 : List Ln) (e_10 : Nat) (e_11 : Nat) : goF scl ini o nL tb env pts G rk fin hn e_0 e_1 e_2 e_3 e_4 e_5 e_6 e_7 e_8 e_9 e_10 e_11 = (match e_0, e_1, e_2, e_3, e_4, e_5, e_6, e_7, e_8, e_9, e_10, e_11 with
  | 0, _, _, _, _, _, _, _, _, _, _, _ => false
  | n + 1, first, pc, st, lv, A, pr, nx, tab, fs, ca, cb => bif (bif first then false else isPt hn.2.2.1 pc) then anyPt hn.2.2.2.2 G rk pc st lv A pr tab fs ca cb pts else goB scl ini o nL tb env fin hn (goF scl ini o nL tb env pts G rk fin hn n false) pc st lv A pr nx tab fs ca cb) := by
  cases e_0 with
  | zero =>
    show false = _
    try simp only [iAddQ_eq, iMulQ_eq, iNegQ_eq, lenQ_eq, nthQ_eq, setQ_eq, appQ_eq, mapQ_eq, allQ_eq, anyQ_eq, dropQ_eq, takeQ_eq, revQ_eq, getDQ_eq, optLQ_eq, brecC]
    all_goals rfl
  | succ t_0 =>
    show (Bool.rec (motive := fun _ => Bool) (goB scl ini o nL tb env fin hn (goF scl ini o nL tb env pts G rk fin hn t_0 false) e_2 e_3 e_4 e_5 e_6 e_7 e_8 e_9 e_10 e_11) (anyPt hn.2.2.2.2 G rk e_2 e_3 e_4 e_5 e_6 e_8 e_9 e_10 e_11 pts) (Bool.rec (motive := fun _ => Bool) (isPt hn.2.2.1 e_2) false e_1)) = _
    try simp only [iAddQ_eq, iMulQ_eq, iNegQ_eq, lenQ_eq, nthQ_eq, setQ_eq, appQ_eq, mapQ_eq, allQ_eq, anyQ_eq, dropQ_eq, takeQ_eq, revQ_eq, getDQ_eq, optLQ_eq, brecC]
    all_goals
      cases hq_1 : ((bif e_1 then false else (isPt hn.2.2.1 e_2))) with
      | false =>
        try dsimp only [cond_false, cond_true]
        all_goals rfl
      | true =>
        try dsimp only [cond_false, cond_true]
        all_goals rfl
theorem goF_eq (scl : Option SL) (ini : Bool) (o nL : Nat) (tb : List (List (Option XE))) (env : List Ct) (pts : List PE) (G : List Ln) (rk : Option Ln) (fin : FN) (hn : HN) : ∀ (n : Nat) (first : Bool), goF scl ini o nL tb env pts G rk fin hn n first = go scl ini o nL tb env pts G rk fin hn n first := by
  intro n
  induction n with
  | zero => intro first; funext pc st lv A pr nx tab fs ca cb; rfl
  | succ n ih =>
    intro first
    funext pc st lv A pr nx tab fs ca cb
    rw [goF_def]
    try dsimp only
    unfold go
    rw [show goF scl ini o nL tb env pts G rk fin hn n false = go scl ini o nL tb env pts G rk fin hn n false from ih false]
    cases hp : (bif first then false else isPt hn.2.2.1 pc) with
    | true => rfl
    | false =>
      simp only [cond_false]
      rw [goB_def]
      rw [macG_def]
      rw [hinG_def]
      cases hm : isPt hn.2.2.2.1 pc with
      | true =>
        simp only [cond_true]
        unfold goH
        cases macAt scl hn.2.1 nL tb pc st lv A pr nx tab fs with
        | some q => obtain ⟨pc', st', lv', A', pr', nx', tab', fs'⟩ := q; rfl
        | none =>
          try dsimp only
          rw [tbGQ_eq]
          cases tbGet tb pc with
          | none => rfl
          | some e =>
            try dsimp only
            cases hn.1 pc lv A pr nx tab fs with
            | none => rfl
            | some L => rfl
      | false =>
        simp only [cond_false]
        rw [opAt_def]
        rw [tbGQ_eq]
        cases tbGet tb pc with
        | none => rfl
        | some e =>
          try dsimp only
          rw [cmpF_ok]
          rfl
/-- the checks of 34, by the quicker runner -/
noncomputable def enCtF (C : Ct) (env : List Ct) (pts : List PE) (sp : SP) (hn : HN) (fuel : Nat) : Bool := match nthQ meths C.1 with
  | none => false
  | some me => bif Nat.ble (slLen C.2.2.1.2.2.2.1) (mMl me) then (bif decide (C.2.2.1.2.2.2.1.length = (if mKd me = 2 then mNa me else mNa me + 1)) then (bif C.2.2.1.2.2.2.1.all (okVA C.2.2.1.2.2.2.2.1.length) then (bif scP C.2.2.1 then (bif outsSc C.2.2.1.1 C.2.2.2 then
    splA sp (tbOf C.2.2.1.2.1) (fun tab => goF none (mKd me == 1) (mOw me) (mMl me) (mTb me) env pts (symsL C.2.2.1.1 0) none (finC (mRt me) C.2.2.2 C.2.2.1.1 (symsL C.2.2.1.1 0)) hn fuel true 0 [] (aArgs 0 C.2.2.1.2.2.2.1) C.2.2.1.2.2.2.2.1 C.2.2.1.2.2.2.2.2 C.2.2.1.1 tab C.2.2.1.2.2.1 0 0) else false) else false) else false) else false) else false
noncomputable def runPtF (law ini : Bool) (o nL : Nat) (tb : List (List (Option XE))) (env : List Ct) (pts : List PE) (fin : List Ln → FN) (hn : HN) (fuel : Nat) (p : PE) : Bool :=
  bif Nat.ble p.2.1.length p.2.2.1.2.2.2.1.length then (bif scE p then
    goF (sclG law p.2.2.2.1) ini o nL tb env pts p.2.2.2.1 p.2.2.2.2.1 (fin p.2.2.2.1) hn fuel true p.1 (p.2.2.1.2.2.2.1.take (Nat.sub p.2.2.1.2.2.2.1.length p.2.1.length)) (zipL p.2.1 (p.2.2.1.2.2.2.1.drop (Nat.sub p.2.2.1.2.2.2.1.length p.2.1.length))) p.2.2.1.2.2.2.2.1 p.2.2.1.2.2.2.2.2 p.2.2.1.1 (tbOf p.2.2.1.2.1) p.2.2.1.2.2.1 p.2.2.2.2.2.1 p.2.2.2.2.2.2 else false) else false
noncomputable def ptCtF (C : Ct) (env : List Ct) (pts : List PE) (hn : HN) (fuel : Nat) (p : PE) : Bool := match nthQ meths C.1 with
  | none => false
  | some me => bif rkNn p then runPtF false (mKd me == 1) (mOw me) (mMl me) (mTb me) env pts (finC (mRt me) C.2.2.2 C.2.2.1.1) hn fuel p else false
theorem runPtF_eq : @runPtF = @runPt := by
  funext law ini o nL tb env pts fin hn fuel p
  unfold runPtF runPt
  rw [goF_eq]
theorem enF {C : Ct} {env : List Ct} {pts : List PE} {sp : SP} {hn : HN} {fuel : Nat} (h : enCtF C env pts sp hn fuel = true) : enCt C env pts sp hn fuel = true := by
  have e : enCtF C env pts sp hn fuel = enCt C env pts sp hn fuel := by
    unfold enCtF enCt
    rw [nthQ_eq]
    simp only [goF_eq]
    rfl
  rw [← e]
  exact h
theorem ptF {C : Ct} {env : List Ct} {pts : List PE} {hn : HN} {fuel : Nat} {p : PE} (h : ptCtF C env pts hn fuel p = true) : ptCt C env pts hn fuel p = true := by
  have e : ptCtF C env pts hn fuel p = ptCt C env pts hn fuel p := by
    unfold ptCtF ptCt
    rw [nthQ_eq, runPtF_eq]
    rfl
  rw [← e]
  exact h
