/-! ===== patterns: what is known at a place, in symbols of its own ===== -/
abbrev Pt : Type := Nat × TbL × List Ln × List AV × AH × List PD
noncomputable def PtOk (PP : Nat → List (List Int32) → List Int → Prop) (ρ : Nat → Int) (P : Pt) (vs : List Value) (σ : SH) : Prop :=
  tOkL ρ P.2.1 ∧ fOk ρ P.2.2.1 ∧ rel2 (vrel ρ) vs P.2.2.2.1 ∧ rel2 (crel ρ) σ P.2.2.2.2.1 ∧ prOk PP ρ σ P.2.2.2.2.2
-- the symbols' meaning, found by looking (what is found is checked below)
abbrev Un : Type := Nat × List (Nat × Ln)
noncomputable def un0 : Un := (0, [])
noncomputable def thHas (s : Nat) (θ : Un) : Bool :=
  (Nat.beq (Nat.land (Nat.shiftRight θ.1 s) (nat_lit 1)) (nat_lit 1))
theorem thHas_def (s : Nat) (θ : Un) : thHas s θ = Nat.beq (Nat.land (Nat.shiftRight θ.1 s) 1) 1 := by
  show (Nat.beq (Nat.land (Nat.shiftRight θ.1 s) (nat_lit 1)) (nat_lit 1)) = _
  all_goals rfl
noncomputable def insU_a0 :=
  fun (s : Nat) (e : Ln) (t_1312 : Nat) (x_1313 : Ln) (t_0 : List (Nat × Ln)) => (((s, e) :: ((t_1312, x_1313) :: t_0)) : List (Nat × Ln))
noncomputable def insU_a1 :=
  fun (t_1312 : Nat) (x_1313 : Ln) (ih : List (Nat × Ln)) (s : Nat) (e : Ln) (t_0 : List (Nat × Ln)) => ((Bool.rec (motive := fun _ => List (Nat × Ln)) ((t_1312, x_1313) :: (ih)) (insU_a0 s e t_1312 x_1313 t_0) (Nat.ble t_1312 s)) : List (Nat × Ln))
noncomputable def insU (s : Nat) (e : Ln) : List (Nat × Ln) → List (Nat × Ln) :=
  fun e_0 => List.rec (motive := fun _ => List (Nat × Ln)) [(s, e)] (fun h_0 t_0 ih => (Prod.rec (motive := fun _ => List (Nat × Ln)) (fun t_1312 x_1313 => (insU_a1 t_1312 x_1313 ih s e t_0)) h_0)) e_0 
theorem insU_def (s : Nat) (e : Ln) (e_0 : List (Nat × Ln)) : insU s e e_0 = (match e_0 with
  | [] => [(s, e)]
  | (t, x) :: r => bif Nat.ble t s then (s, e) :: (t, x) :: r else (t, x) :: insU s e r) := by
  cases e_0 with
  | nil =>
    show [(s, e)] = _
    try simp only [iAddQ_eq, iMulQ_eq, iNegQ_eq, lenQ_eq, nthQ_eq, setQ_eq, appQ_eq, mapQ_eq, allQ_eq, anyQ_eq, dropQ_eq, takeQ_eq, revQ_eq, getDQ_eq, optLQ_eq, brecC]
    all_goals rfl
  | cons h_0 t_0 =>
    show (Prod.rec (motive := fun _ => List (Nat × Ln)) (fun t_1314 x_1315 => (Bool.rec (motive := fun _ => List (Nat × Ln)) ((t_1314, x_1315) :: (insU s e t_0)) ((s, e) :: ((t_1314, x_1315) :: t_0)) (Nat.ble t_1314 s))) h_0) = _
    try simp only [iAddQ_eq, iMulQ_eq, iNegQ_eq, lenQ_eq, nthQ_eq, setQ_eq, appQ_eq, mapQ_eq, allQ_eq, anyQ_eq, dropQ_eq, takeQ_eq, revQ_eq, getDQ_eq, optLQ_eq, brecC]
    all_goals
      cases h_0 with
      | mk y_1316 y_1317 =>
        try dsimp only [cond_false, cond_true]
        all_goals
          cases hq_2 : (Nat.ble y_1316 s) with
          | false =>
            try dsimp only [cond_false, cond_true]
            all_goals rfl
          | true =>
            try dsimp only [cond_false, cond_true]
            all_goals rfl
noncomputable def uniL_a0 :=
  fun (θ : Un) (s_1326 : Nat) (a : Ln) (p : Ln) => (((Nat.lor θ.1 (Nat.shiftLeft (nat_lit 1) s_1326)), (insU s_1326 (Bool.rec (motive := fun _ => _) (pluL a (iNegQ p.1)) a (isZ p.1)) θ.2)) : Un)
noncomputable def uniL_a1 :=
  fun (θ : Un) (s_1326 : Nat) (a : Ln) (p : Ln) (k_1327 : Int) => ((Bool.rec (motive := fun _ => Un) θ (uniL_a0 θ s_1326 a p) (eqI k_1327 (.ofNat (nat_lit 1)))) : Un)
noncomputable def uniL_a2 :=
  fun (θ : Un) (s_1326 : Nat) (a : Ln) (p : Ln) (k_1327 : Int) => ((Bool.rec (motive := fun _ => Un) (uniL_a1 θ s_1326 a p k_1327) θ (thHas s_1326 θ)) : Un)
noncomputable def uniL (θ : Un) (p a : Ln) : Un :=
  (List.rec (motive := fun _ => Un) θ (fun x_1324 x_1325 _ => (Prod.rec (motive := fun _ => Un) (fun s_1326 k_1327 => (List.rec (motive := fun _ => Un) (uniL_a2 θ s_1326 a p k_1327) (fun x_1328 x_1329 _ => θ) x_1325)) x_1324)) p.2)
theorem uniL_def (θ : Un) (p a : Ln) : uniL θ p a = (match p.2 with
  | [(s, k)] => bif thHas s θ then θ else bif eqI k 1 then (Nat.lor θ.1 (Nat.shiftLeft 1 s), insU s (bif isZ p.1 then a else pluL a (Int.neg p.1)) θ.2) else θ
  | _ => θ) := by
  show (List.rec (motive := fun _ => Un) θ (fun x_1318 x_1319 _ => (Prod.rec (motive := fun _ => Un) (fun s_1320 k_1321 => (List.rec (motive := fun _ => Un) (Bool.rec (motive := fun _ => Un) (Bool.rec (motive := fun _ => Un) θ ((Nat.lor θ.1 (Nat.shiftLeft (nat_lit 1) s_1320)), (insU s_1320 (Bool.rec (motive := fun _ => _) (pluL a (iNegQ p.1)) a (isZ p.1)) θ.2)) (eqI k_1321 (.ofNat (nat_lit 1)))) θ (thHas s_1320 θ)) (fun x_1322 x_1323 _ => θ) x_1319)) x_1318)) p.2) = _
  try simp only [iAddQ_eq, iMulQ_eq, iNegQ_eq, lenQ_eq, nthQ_eq, setQ_eq, appQ_eq, mapQ_eq, allQ_eq, anyQ_eq, dropQ_eq, takeQ_eq, revQ_eq, getDQ_eq, optLQ_eq, brecC]
  all_goals
    cases hq_1 : p.2 with
    | nil =>
      try dsimp only [cond_false, cond_true]
      all_goals rfl
    | cons y_1330 y_1331 =>
      try dsimp only [cond_false, cond_true]
      all_goals
        cases y_1330 with
        | mk y_1332 y_1333 =>
          try dsimp only [cond_false, cond_true]
          all_goals
            cases y_1331 with
            | nil =>
              try dsimp only [cond_false, cond_true]
              all_goals
                cases hq_4 : (thHas y_1332 θ) with
                | false =>
                  try dsimp only [cond_false, cond_true]
                  all_goals
                    cases hq_5 : (eqI y_1333 1) with
                    | false =>
                      try dsimp only [cond_false, cond_true]
                      all_goals rfl
                    | true =>
                      try dsimp only [cond_false, cond_true]
                      all_goals rfl
                | true =>
                  try dsimp only [cond_false, cond_true]
                  all_goals rfl
            | cons y_1334 y_1335 =>
              try dsimp only [cond_false, cond_true]
              all_goals rfl
noncomputable def thLk_a0 :=
  fun (ih : Ln) (e_1337 : Ln) (s : Nat) (t_1336 : Nat) => ((Bool.rec (motive := fun _ => Ln) (ih) e_1337 (Nat.beq s t_1336)) : Ln)
noncomputable def thLk (s : Nat) : List (Nat × Ln) → Ln :=
  fun e_0 => List.rec (motive := fun _ => Ln) (sL s) (fun h_0 t_0 ih => (Prod.rec (motive := fun _ => Ln) (fun t_1336 e_1337 => (thLk_a0 ih e_1337 s t_1336)) h_0)) e_0 
theorem thLk_def (s : Nat) (e_0 : List (Nat × Ln)) : thLk s e_0 = (match e_0 with
  | [] => sL s
  | (t, e) :: r => bif Nat.beq s t then e else thLk s r) := by
  cases e_0 with
  | nil =>
    show (sL s) = _
    try simp only [iAddQ_eq, iMulQ_eq, iNegQ_eq, lenQ_eq, nthQ_eq, setQ_eq, appQ_eq, mapQ_eq, allQ_eq, anyQ_eq, dropQ_eq, takeQ_eq, revQ_eq, getDQ_eq, optLQ_eq, brecC]
    all_goals rfl
  | cons h_0 t_0 =>
    show (Prod.rec (motive := fun _ => Ln) (fun t_1338 e_1339 => (Bool.rec (motive := fun _ => Ln) (thLk s t_0) e_1339 (Nat.beq s t_1338))) h_0) = _
    try simp only [iAddQ_eq, iMulQ_eq, iNegQ_eq, lenQ_eq, nthQ_eq, setQ_eq, appQ_eq, mapQ_eq, allQ_eq, anyQ_eq, dropQ_eq, takeQ_eq, revQ_eq, getDQ_eq, optLQ_eq, brecC]
    all_goals
      cases h_0 with
      | mk y_1340 y_1341 =>
        try dsimp only [cond_false, cond_true]
        all_goals
          cases hq_2 : (Nat.beq s y_1340) with
          | false =>
            try dsimp only [cond_false, cond_true]
            all_goals rfl
          | true =>
            try dsimp only [cond_false, cond_true]
            all_goals rfl
/-- a list, the greatest first, as a function -/
noncomputable def balF_a0 :=
  (((nat_lit 0), (fun _ => (kL (.ofNat (nat_lit 0)))), []) : Nat × (Nat → Ln) × List (Nat × Ln))
noncomputable def balF_a1 :=
  fun (m2_1352 : Nat) (f2_1354 : (Nat → Ln)) (f_1348 : (Nat → Ln)) (m_1346 : Nat) (r2_1355 : List (Nat × Ln)) => ((m2_1352, (fun t => (Bool.rec (motive := fun _ => _) (f2_1354 t) (f_1348 t) (Nat.ble m_1346 t))), r2_1355) : Nat × (Nat → Ln) × List (Nat × Ln))
noncomputable def balF  : Nat → List (Nat × Ln) → Nat × (Nat → Ln) × List (Nat × Ln) :=
  fun e_0 e_1 => Nat.rec (motive := fun _ => List (Nat × Ln) → Nat × (Nat → Ln) × List (Nat × Ln)) (fun e_1 => (List.rec (motive := fun _ => Nat × (Nat → Ln) × List (Nat × Ln)) balF_a0 (fun x_1342 r_1343 _ => (Prod.rec (motive := fun _ => Nat × (Nat → Ln) × List (Nat × Ln)) (fun s_1344 e_1345 => (s_1344, (fun _ => e_1345), r_1343)) x_1342)) e_1)) (fun t_0 ih e_1 => (Prod.rec (motive := fun _ => Nat × (Nat → Ln) × List (Nat × Ln)) (fun m_1346 x_1347 => (Prod.rec (motive := fun _ => Nat × (Nat → Ln) × List (Nat × Ln)) (fun f_1348 x_1349 => (List.rec (motive := fun _ => Nat × (Nat → Ln) × List (Nat × Ln)) (m_1346, f_1348, []) (fun q_1350 r_1351 _ => (Prod.rec (motive := fun _ => Nat × (Nat → Ln) × List (Nat × Ln)) (fun m2_1352 x_1353 => (Prod.rec (motive := fun _ => Nat × (Nat → Ln) × List (Nat × Ln)) (fun f2_1354 r2_1355 => (balF_a1 m2_1352 f2_1354 f_1348 m_1346 r2_1355)) x_1353)) (ih (q_1350 :: r_1351)))) x_1349)) x_1347)) (ih e_1))) e_0 e_1
theorem balF_def  (e_0 : Nat) (e_1 : List (Nat × Ln)) : balF  e_0 e_1 = (match e_0, e_1 with
  | 0, [] => (0, fun _ => kL 0, [])
  | 0, (s, e) :: r => (s, fun _ => e, r)
  | n + 1, l => match balF n l with
    | (m, f, []) => (m, f, [])
    | (m, f, q :: r) => match balF n (q :: r) with
      | (m2, f2, r2) => (m2, fun t => bif Nat.ble m t then f t else f2 t, r2)) := by
  cases e_0 with
  | zero =>
    show (List.rec (motive := fun _ => Nat × (Nat → Ln) × List (Nat × Ln)) ((nat_lit 0), (fun _ => (kL (.ofNat (nat_lit 0)))), []) (fun x_1356 r_1357 _ => (Prod.rec (motive := fun _ => Nat × (Nat → Ln) × List (Nat × Ln)) (fun s_1358 e_1359 => (s_1358, (fun _ => e_1359), r_1357)) x_1356)) e_1) = _
    try simp only [iAddQ_eq, iMulQ_eq, iNegQ_eq, lenQ_eq, nthQ_eq, setQ_eq, appQ_eq, mapQ_eq, allQ_eq, anyQ_eq, dropQ_eq, takeQ_eq, revQ_eq, getDQ_eq, optLQ_eq, brecC]
    all_goals
      cases e_1 with
      | nil =>
        try dsimp only [cond_false, cond_true]
        all_goals rfl
      | cons y_1360 y_1361 =>
        try dsimp only [cond_false, cond_true]
        all_goals
          cases y_1360 with
          | mk y_1362 y_1363 =>
            try dsimp only [cond_false, cond_true]
            all_goals rfl
  | succ t_0 =>
    show (Prod.rec (motive := fun _ => Nat × (Nat → Ln) × List (Nat × Ln)) (fun m_1364 x_1365 => (Prod.rec (motive := fun _ => Nat × (Nat → Ln) × List (Nat × Ln)) (fun f_1366 x_1367 => (List.rec (motive := fun _ => Nat × (Nat → Ln) × List (Nat × Ln)) (m_1364, f_1366, []) (fun q_1368 r_1369 _ => (Prod.rec (motive := fun _ => Nat × (Nat → Ln) × List (Nat × Ln)) (fun m2_1370 x_1371 => (Prod.rec (motive := fun _ => Nat × (Nat → Ln) × List (Nat × Ln)) (fun f2_1372 r2_1373 => (m2_1370, (fun t => (Bool.rec (motive := fun _ => _) (f2_1372 t) (f_1366 t) (Nat.ble m_1364 t))), r2_1373)) x_1371)) (balF t_0 (q_1368 :: r_1369)))) x_1367)) x_1365)) (balF t_0 e_1)) = _
    try simp only [iAddQ_eq, iMulQ_eq, iNegQ_eq, lenQ_eq, nthQ_eq, setQ_eq, appQ_eq, mapQ_eq, allQ_eq, anyQ_eq, dropQ_eq, takeQ_eq, revQ_eq, getDQ_eq, optLQ_eq, brecC]
    all_goals
      cases hq_3 : (balF t_0 e_1) with
      | mk y_1374 y_1375 =>
        try dsimp only [cond_false, cond_true]
        all_goals
          cases y_1375 with
          | mk y_1376 y_1377 =>
            try dsimp only [cond_false, cond_true]
            all_goals
              cases y_1377 with
              | nil =>
                try dsimp only [cond_false, cond_true]
                all_goals rfl
              | cons y_1378 y_1379 =>
                try dsimp only [cond_false, cond_true]
                all_goals
                  cases hq_6 : (balF t_0 ((y_1378 :: y_1379))) with
                  | mk y_1380 y_1381 =>
                    try dsimp only [cond_false, cond_true]
                    all_goals
                      cases y_1381 with
                      | mk y_1382 y_1383 =>
                        try dsimp only [cond_false, cond_true]
                        all_goals rfl
noncomputable def withF (θ : Un) (k : Th → Bool) : Bool :=
  (Prod.rec (motive := fun _ => Bool) (fun x_1388 x_1389 => (Prod.rec (motive := fun _ => Bool) (fun f_1390 x_1391 => (k f_1390)) x_1389)) (balF (nat_lit 9) θ.2))
theorem withF_def (θ : Un) (k : Th → Bool) : withF θ k = (match balF 9 θ.2 with
  | (_, f, _) => k f) := by
  show (Prod.rec (motive := fun _ => Bool) (fun x_1384 x_1385 => (Prod.rec (motive := fun _ => Bool) (fun f_1386 x_1387 => (k f_1386)) x_1385)) (balF (nat_lit 9) θ.2)) = _
  all_goals
    cases hq_1 : (balF 9 θ.2) with
    | mk y_1392 y_1393 =>
      try dsimp only [cond_false, cond_true]
      all_goals
        cases y_1393 with
        | mk y_1394 y_1395 =>
          try dsimp only [cond_false, cond_true]
          all_goals rfl
theorem withF_ok {θ : Un} {k : Th → Bool} (h : withF θ k = true) : ∃ f, k f = true := by
  rw [withF_def] at h
  split at h
  exact ⟨_, h⟩
noncomputable def uniV (θ : Un) (p a : AV) : Un :=
  (Sum.rec (motive := fun _ => Un) (fun x_1404 => (Prod.rec (motive := fun _ => Un) (fun x_1406 e_1407 => (Sum.rec (motive := fun _ => Un) (fun x_1408 => (Prod.rec (motive := fun _ => Un) (fun x_1410 e_1411 => (uniL θ e_1407 e_1411)) x_1408)) (fun x_1409 => θ) a)) x_1404)) (fun x_1405 => θ) p)
theorem uniV_def (θ : Un) (p a : AV) : uniV θ p a = (match p, a with
  | .inl (_, e), .inl (_, e') => uniL θ e e'
  | _, _ => θ) := by
  show (Sum.rec (motive := fun _ => Un) (fun x_1396 => (Prod.rec (motive := fun _ => Un) (fun x_1398 e_1399 => (Sum.rec (motive := fun _ => Un) (fun x_1400 => (Prod.rec (motive := fun _ => Un) (fun x_1402 e_1403 => (uniL θ e_1399 e_1403)) x_1400)) (fun x_1401 => θ) a)) x_1396)) (fun x_1397 => θ) p) = _
  all_goals
    cases p with
    | inl y_1412 =>
      try dsimp only [cond_false, cond_true]
      all_goals
        cases y_1412 with
        | mk y_1413 y_1414 =>
          try dsimp only [cond_false, cond_true]
          all_goals
            cases a with
            | inl y_1415 =>
              try dsimp only [cond_false, cond_true]
              all_goals
                cases y_1415 with
                | mk y_1416 y_1417 =>
                  try dsimp only [cond_false, cond_true]
                  all_goals rfl
            | inr y_1418 =>
              try dsimp only [cond_false, cond_true]
              all_goals rfl
    | inr y_1419 =>
      try dsimp only [cond_false, cond_true]
      all_goals rfl
noncomputable def uniVs  : Un → List AV → List AV → Un :=
  fun θ e_0 e_1 => List.rec (motive := fun _ => Un → List AV → Un) (fun θ e_1 => θ) (fun h_0 t_0 ih θ e_1 => (List.rec (motive := fun _ => Un) θ (fun a_1420 q_1421 _ => (ih (uniV θ h_0 a_1420) q_1421)) e_1)) e_0 θ e_1
theorem uniVs_def  (θ : Un) (e_0 : List AV) (e_1 : List AV) : uniVs  θ e_0 e_1 = (match e_0, e_1 with
  | p :: r, a :: q => uniVs (uniV θ p a) r q
  | _, _ => θ) := by
  cases e_0 with
  | nil =>
    show θ = _
    try simp only [iAddQ_eq, iMulQ_eq, iNegQ_eq, lenQ_eq, nthQ_eq, setQ_eq, appQ_eq, mapQ_eq, allQ_eq, anyQ_eq, dropQ_eq, takeQ_eq, revQ_eq, getDQ_eq, optLQ_eq, brecC]
    all_goals rfl
  | cons h_0 t_0 =>
    show (List.rec (motive := fun _ => Un) θ (fun a_1422 q_1423 _ => (uniVs (uniV θ h_0 a_1422) t_0 q_1423)) e_1) = _
    try simp only [iAddQ_eq, iMulQ_eq, iNegQ_eq, lenQ_eq, nthQ_eq, setQ_eq, appQ_eq, mapQ_eq, allQ_eq, anyQ_eq, dropQ_eq, takeQ_eq, revQ_eq, getDQ_eq, optLQ_eq, brecC]
    all_goals
      cases e_1 with
      | nil =>
        try dsimp only [cond_false, cond_true]
        all_goals rfl
      | cons y_1424 y_1425 =>
        try dsimp only [cond_false, cond_true]
        all_goals rfl
noncomputable def uniS_a0 :=
  fun (ih : Un → List Sg → List Sg → Un) (e_1 : Un) (e_1428 : Ln) (e_1432 : Ln) (r_1427 : List Sg) (q_1431 : List Sg) => ((ih (uniL e_1 e_1428 e_1432) r_1427 q_1431) : Un)
noncomputable def uniS_a1 :=
  fun (ih : Un → List Sg → List Sg → Un) (e_1 : Un) (e_1428 : Ln) (r_1427 : List Sg) (q_1431 : List Sg) => ((ih e_1 ((.inl e_1428) :: r_1427) q_1431) : Un)
noncomputable def uniS_a2 :=
  fun (ih : Un → List Sg → List Sg → Un) (e_1 : Un) (e_1428 : Ln) (lo_1436 : Int) (hi_1437 : Int) (r_1427 : List Sg) (m_1438 : Nat) (q_1431 : List Sg) => ((ih (Bool.rec (motive := fun _ => Un) e_1 (uniL e_1 e_1428 (kL lo_1436)) (eqI lo_1436 hi_1437)) r_1427 ((.inr (m_1438, lo_1436, hi_1437)) :: q_1431)) : Un)
noncomputable def uniS_a3 :=
  fun (ih : Un → List Sg → List Sg → Un) (e_1 : Un) (r_1427 : List Sg) (e_1445 : Ln) (q_1444 : List Sg) => ((ih e_1 r_1427 ((.inl e_1445) :: q_1444)) : Un)
noncomputable def uniS_a4 :=
  fun (ih : Un → List Sg → List Sg → Un) (e_1 : Un) (m_1447 : Nat) (lo_1441 : Int) (hi_1442 : Int) (r_1427 : List Sg) (q_1444 : List Sg) => ((ih e_1 ((.inr (m_1447, lo_1441, hi_1442)) :: r_1427) q_1444) : Un)
noncomputable def uniS_a5 :=
  fun (ih : Un → List Sg → List Sg → Un) (e_1 : Un) (m_1439 : Nat) (m_1448 : Nat) (lo_1441 : Int) (hi_1442 : Int) (r_1427 : List Sg) (q_1444 : List Sg) => ((ih e_1 ((.inr ((Nat.sub m_1439 m_1448), lo_1441, hi_1442)) :: r_1427) q_1444) : Un)
noncomputable def uniS_a6 :=
  fun (ih : Un → List Sg → List Sg → Un) (e_1 : Un) (r_1427 : List Sg) (m_1448 : Nat) (m_1439 : Nat) (lo_1450 : Int) (hi_1451 : Int) (q_1444 : List Sg) => ((ih e_1 r_1427 ((.inr ((Nat.sub m_1448 m_1439), lo_1450, hi_1451)) :: q_1444)) : Un)
noncomputable def uniS_a7 :=
  fun (ih : Un → List Sg → List Sg → Un) (e_1 : Un) (r_1427 : List Sg) (m_1448 : Nat) (m_1439 : Nat) (lo_1450 : Int) (hi_1451 : Int) (q_1444 : List Sg) => ((Bool.rec (motive := fun _ => Un) (uniS_a6 ih e_1 r_1427 m_1448 m_1439 lo_1450 hi_1451 q_1444) (ih e_1 r_1427 q_1444) (Nat.beq m_1439 m_1448)) : Un)
noncomputable def uniS_a8 :=
  fun (ih : Un → List Sg → List Sg → Un) (e_1 : Un) (m_1439 : Nat) (m_1448 : Nat) (lo_1441 : Int) (hi_1442 : Int) (r_1427 : List Sg) (q_1444 : List Sg) (lo_1450 : Int) (hi_1451 : Int) => ((Bool.rec (motive := fun _ => Un) (uniS_a5 ih e_1 m_1439 m_1448 lo_1441 hi_1442 r_1427 q_1444) (uniS_a7 ih e_1 r_1427 m_1448 m_1439 lo_1450 hi_1451 q_1444) (Nat.ble m_1439 m_1448)) : Un)
noncomputable def uniS  : Nat → Un → List Sg → List Sg → Un :=
  fun e_0 e_1 e_2 e_3 => Nat.rec (motive := fun _ => Un → List Sg → List Sg → Un) (fun e_1 e_2 e_3 => e_1) (fun t_0 ih e_1 e_2 e_3 => (List.rec (motive := fun _ => Un) e_1 (fun x_1426 r_1427 _ => (Sum.rec (motive := fun _ => Un) (fun e_1428 => (List.rec (motive := fun _ => Un) e_1 (fun x_1430 q_1431 _ => (Sum.rec (motive := fun _ => Un) (fun e_1432 => (uniS_a0 ih e_1 e_1428 e_1432 r_1427 q_1431)) (fun x_1433 => (Prod.rec (motive := fun _ => Un) (fun m_1434 x_1435 => (Prod.rec (motive := fun _ => Un) (fun lo_1436 hi_1437 => (Nat.rec (motive := fun _ => Un) (uniS_a1 ih e_1 e_1428 r_1427 q_1431) (fun m_1438 _ => (uniS_a2 ih e_1 e_1428 lo_1436 hi_1437 r_1427 m_1438 q_1431)) m_1434)) x_1435)) x_1433)) x_1430)) e_3)) (fun x_1429 => (Prod.rec (motive := fun _ => Un) (fun m_1439 x_1440 => (Prod.rec (motive := fun _ => Un) (fun lo_1441 hi_1442 => (List.rec (motive := fun _ => Un) e_1 (fun x_1443 q_1444 _ => (Sum.rec (motive := fun _ => Un) (fun e_1445 => (Nat.rec (motive := fun _ => Un) (uniS_a3 ih e_1 r_1427 e_1445 q_1444) (fun m_1447 _ => (uniS_a4 ih e_1 m_1447 lo_1441 hi_1442 r_1427 q_1444)) m_1439)) (fun x_1446 => (Prod.rec (motive := fun _ => Un) (fun m_1448 x_1449 => (Prod.rec (motive := fun _ => Un) (fun lo_1450 hi_1451 => (uniS_a8 ih e_1 m_1439 m_1448 lo_1441 hi_1442 r_1427 q_1444 lo_1450 hi_1451)) x_1449)) x_1446)) x_1443)) e_3)) x_1440)) x_1429)) x_1426)) e_2)) e_0 e_1 e_2 e_3
theorem uniS_def  (e_0 : Nat) (e_1 : Un) (e_2 : List Sg) (e_3 : List Sg) : uniS  e_0 e_1 e_2 e_3 = (match e_0, e_1, e_2, e_3 with
  | 0, θ, _, _ => θ
  | n + 1, θ, p, a => match p, a with
    | .inl e :: r, .inl e' :: q => uniS n (uniL θ e e') r q
    | .inl e :: r, .inr (m, lo, hi) :: q => match m with
      | 0 => uniS n θ (.inl e :: r) q
      | m + 1 => uniS n (bif eqI lo hi then uniL θ e (kL lo) else θ) r (.inr (m, lo, hi) :: q)
    | .inr (m, lo, hi) :: r, .inl e' :: q => match m with
      | 0 => uniS n θ r (.inl e' :: q)
      | m + 1 => uniS n θ (.inr (m, lo, hi) :: r) q
    | .inr (m, lo, hi) :: r, .inr (m', lo', hi') :: q => bif Nat.ble m m' then (bif Nat.beq m m' then uniS n θ r q else uniS n θ r (.inr (Nat.sub m' m, lo', hi') :: q)) else uniS n θ (.inr (Nat.sub m m', lo, hi) :: r) q
    | _, _ => θ) := by
  cases e_0 with
  | zero =>
    show e_1 = _
    try simp only [iAddQ_eq, iMulQ_eq, iNegQ_eq, lenQ_eq, nthQ_eq, setQ_eq, appQ_eq, mapQ_eq, allQ_eq, anyQ_eq, dropQ_eq, takeQ_eq, revQ_eq, getDQ_eq, optLQ_eq, brecC]
    all_goals rfl
  | succ t_0 =>
    show (List.rec (motive := fun _ => Un) e_1 (fun x_1452 r_1453 _ => (Sum.rec (motive := fun _ => Un) (fun e_1454 => (List.rec (motive := fun _ => Un) e_1 (fun x_1456 q_1457 _ => (Sum.rec (motive := fun _ => Un) (fun e_1458 => (uniS t_0 (uniL e_1 e_1454 e_1458) r_1453 q_1457)) (fun x_1459 => (Prod.rec (motive := fun _ => Un) (fun m_1460 x_1461 => (Prod.rec (motive := fun _ => Un) (fun lo_1462 hi_1463 => (Nat.rec (motive := fun _ => Un) (uniS t_0 e_1 ((.inl e_1454) :: r_1453) q_1457) (fun m_1464 _ => (uniS t_0 (Bool.rec (motive := fun _ => Un) e_1 (uniL e_1 e_1454 (kL lo_1462)) (eqI lo_1462 hi_1463)) r_1453 ((.inr (m_1464, lo_1462, hi_1463)) :: q_1457))) m_1460)) x_1461)) x_1459)) x_1456)) e_3)) (fun x_1455 => (Prod.rec (motive := fun _ => Un) (fun m_1465 x_1466 => (Prod.rec (motive := fun _ => Un) (fun lo_1467 hi_1468 => (List.rec (motive := fun _ => Un) e_1 (fun x_1469 q_1470 _ => (Sum.rec (motive := fun _ => Un) (fun e_1471 => (Nat.rec (motive := fun _ => Un) (uniS t_0 e_1 r_1453 ((.inl e_1471) :: q_1470)) (fun m_1473 _ => (uniS t_0 e_1 ((.inr (m_1473, lo_1467, hi_1468)) :: r_1453) q_1470)) m_1465)) (fun x_1472 => (Prod.rec (motive := fun _ => Un) (fun m_1474 x_1475 => (Prod.rec (motive := fun _ => Un) (fun lo_1476 hi_1477 => (Bool.rec (motive := fun _ => Un) (uniS t_0 e_1 ((.inr ((Nat.sub m_1465 m_1474), lo_1467, hi_1468)) :: r_1453) q_1470) (Bool.rec (motive := fun _ => Un) (uniS t_0 e_1 r_1453 ((.inr ((Nat.sub m_1474 m_1465), lo_1476, hi_1477)) :: q_1470)) (uniS t_0 e_1 r_1453 q_1470) (Nat.beq m_1465 m_1474)) (Nat.ble m_1465 m_1474))) x_1475)) x_1472)) x_1469)) e_3)) x_1466)) x_1455)) x_1452)) e_2) = _
    try simp only [iAddQ_eq, iMulQ_eq, iNegQ_eq, lenQ_eq, nthQ_eq, setQ_eq, appQ_eq, mapQ_eq, allQ_eq, anyQ_eq, dropQ_eq, takeQ_eq, revQ_eq, getDQ_eq, optLQ_eq, brecC]
    all_goals
      cases e_2 with
      | nil =>
        try dsimp only [cond_false, cond_true]
        all_goals rfl
      | cons y_1478 y_1479 =>
        try dsimp only [cond_false, cond_true]
        all_goals
          cases y_1478 with
          | inl y_1480 =>
            try dsimp only [cond_false, cond_true]
            all_goals
              cases e_3 with
              | nil =>
                try dsimp only [cond_false, cond_true]
                all_goals rfl
              | cons y_1481 y_1482 =>
                try dsimp only [cond_false, cond_true]
                all_goals
                  cases y_1481 with
                  | inl y_1483 =>
                    try dsimp only [cond_false, cond_true]
                    all_goals rfl
                  | inr y_1484 =>
                    try dsimp only [cond_false, cond_true]
                    all_goals
                      cases y_1484 with
                      | mk y_1485 y_1486 =>
                        try dsimp only [cond_false, cond_true]
                        all_goals
                          cases y_1486 with
                          | mk y_1487 y_1488 =>
                            try dsimp only [cond_false, cond_true]
                            all_goals
                              cases y_1485 with
                              | zero =>
                                try dsimp only [cond_false, cond_true]
                                all_goals rfl
                              | succ y_1489 =>
                                try dsimp only [cond_false, cond_true]
                                all_goals rfl
          | inr y_1490 =>
            try dsimp only [cond_false, cond_true]
            all_goals
              cases y_1490 with
              | mk y_1491 y_1492 =>
                try dsimp only [cond_false, cond_true]
                all_goals
                  cases y_1492 with
                  | mk y_1493 y_1494 =>
                    try dsimp only [cond_false, cond_true]
                    all_goals
                      cases e_3 with
                      | nil =>
                        try dsimp only [cond_false, cond_true]
                        all_goals rfl
                      | cons y_1495 y_1496 =>
                        try dsimp only [cond_false, cond_true]
                        all_goals
                          cases y_1495 with
                          | inl y_1497 =>
                            try dsimp only [cond_false, cond_true]
                            all_goals
                              cases y_1491 with
                              | zero =>
                                try dsimp only [cond_false, cond_true]
                                all_goals rfl
                              | succ y_1498 =>
                                try dsimp only [cond_false, cond_true]
                                all_goals rfl
                          | inr y_1499 =>
                            try dsimp only [cond_false, cond_true]
                            all_goals
                              cases y_1499 with
                              | mk y_1500 y_1501 =>
                                try dsimp only [cond_false, cond_true]
                                all_goals
                                  cases y_1501 with
                                  | mk y_1502 y_1503 =>
                                    try dsimp only [cond_false, cond_true]
                                    all_goals
                                      cases hq_15 : (Nat.ble y_1491 y_1500) with
                                      | false =>
                                        try dsimp only [cond_false, cond_true]
                                        all_goals rfl
                                      | true =>
                                        try dsimp only [cond_false, cond_true]
                                        all_goals
                                          cases hq_16 : (Nat.beq y_1491 y_1500) with
                                          | false =>
                                            try dsimp only [cond_false, cond_true]
                                            all_goals rfl
                                          | true =>
                                            try dsimp only [cond_false, cond_true]
                                            all_goals rfl
noncomputable def uniC_a0 :=
  fun (θ : Un) (s_1532 : List Sg) (s_1538 : List Sg) => ((uniS (nat_lit 600) θ s_1532 s_1538) : Un)
noncomputable def uniC (θ : Un) (p a : AC) : Un :=
  (Sum.rec (motive := fun _ => Un) (fun x_1522 => (Prod.rec (motive := fun _ => Un) (fun x_1524 l_1525 => (Sum.rec (motive := fun _ => Un) (fun x_1526 => (Prod.rec (motive := fun _ => Un) (fun x_1528 l_1529 => (uniVs θ l_1525 l_1529)) x_1526)) (fun x_1527 => θ) a)) x_1522)) (fun x_1523 => (Prod.rec (motive := fun _ => Un) (fun x_1530 x_1531 => (Sum.rec (motive := fun _ => Un) (fun s_1532 => (Sum.rec (motive := fun _ => Un) (fun x_1534 => θ) (fun x_1535 => (Prod.rec (motive := fun _ => Un) (fun x_1536 x_1537 => (Sum.rec (motive := fun _ => Un) (fun s_1538 => (uniC_a0 θ s_1532 s_1538)) (fun x_1539 => θ) x_1537)) x_1535)) a)) (fun x_1533 => θ) x_1531)) x_1523)) p)
theorem uniC_def (θ : Un) (p a : AC) : uniC θ p a = (match p, a with
  | .inl (_, l), .inl (_, l') => uniVs θ l l'
  | .inr (_, .inl s), .inr (_, .inl s') => uniS 600 θ s s'
  | _, _ => θ) := by
  show (Sum.rec (motive := fun _ => Un) (fun x_1504 => (Prod.rec (motive := fun _ => Un) (fun x_1506 l_1507 => (Sum.rec (motive := fun _ => Un) (fun x_1508 => (Prod.rec (motive := fun _ => Un) (fun x_1510 l_1511 => (uniVs θ l_1507 l_1511)) x_1508)) (fun x_1509 => θ) a)) x_1504)) (fun x_1505 => (Prod.rec (motive := fun _ => Un) (fun x_1512 x_1513 => (Sum.rec (motive := fun _ => Un) (fun s_1514 => (Sum.rec (motive := fun _ => Un) (fun x_1516 => θ) (fun x_1517 => (Prod.rec (motive := fun _ => Un) (fun x_1518 x_1519 => (Sum.rec (motive := fun _ => Un) (fun s_1520 => (uniS (nat_lit 600) θ s_1514 s_1520)) (fun x_1521 => θ) x_1519)) x_1517)) a)) (fun x_1515 => θ) x_1513)) x_1505)) p) = _
  all_goals
    cases p with
    | inl y_1540 =>
      try dsimp only [cond_false, cond_true]
      all_goals
        cases y_1540 with
        | mk y_1541 y_1542 =>
          try dsimp only [cond_false, cond_true]
          all_goals
            cases a with
            | inl y_1543 =>
              try dsimp only [cond_false, cond_true]
              all_goals
                cases y_1543 with
                | mk y_1544 y_1545 =>
                  try dsimp only [cond_false, cond_true]
                  all_goals rfl
            | inr y_1546 =>
              try dsimp only [cond_false, cond_true]
              all_goals rfl
    | inr y_1547 =>
      try dsimp only [cond_false, cond_true]
      all_goals
        cases y_1547 with
        | mk y_1548 y_1549 =>
          try dsimp only [cond_false, cond_true]
          all_goals
            cases y_1549 with
            | inl y_1550 =>
              try dsimp only [cond_false, cond_true]
              all_goals
                cases a with
                | inl y_1551 =>
                  try dsimp only [cond_false, cond_true]
                  all_goals rfl
                | inr y_1552 =>
                  try dsimp only [cond_false, cond_true]
                  all_goals
                    cases y_1552 with
                    | mk y_1553 y_1554 =>
                      try dsimp only [cond_false, cond_true]
                      all_goals
                        cases y_1554 with
                        | inl y_1555 =>
                          try dsimp only [cond_false, cond_true]
                          all_goals rfl
                        | inr y_1556 =>
                          try dsimp only [cond_false, cond_true]
                          all_goals rfl
            | inr y_1557 =>
              try dsimp only [cond_false, cond_true]
              all_goals rfl
noncomputable def uniH  : Un → AH → AH → Un :=
  fun θ e_0 e_1 => List.rec (motive := fun _ => Un → AH → Un) (fun θ e_1 => θ) (fun h_0 t_0 ih θ e_1 => (List.rec (motive := fun _ => Un) θ (fun a_1558 q_1559 _ => (ih (uniC θ h_0 a_1558) q_1559)) e_1)) e_0 θ e_1
theorem uniH_def  (θ : Un) (e_0 : AH) (e_1 : AH) : uniH  θ e_0 e_1 = (match e_0, e_1 with
  | p :: r, a :: q => uniH (uniC θ p a) r q
  | _, _ => θ) := by
  cases e_0 with
  | nil =>
    show θ = _
    try simp only [iAddQ_eq, iMulQ_eq, iNegQ_eq, lenQ_eq, nthQ_eq, setQ_eq, appQ_eq, mapQ_eq, allQ_eq, anyQ_eq, dropQ_eq, takeQ_eq, revQ_eq, getDQ_eq, optLQ_eq, brecC]
    all_goals rfl
  | cons h_0 t_0 =>
    show (List.rec (motive := fun _ => Un) θ (fun a_1560 q_1561 _ => (uniH (uniC θ h_0 a_1560) t_0 q_1561)) e_1) = _
    try simp only [iAddQ_eq, iMulQ_eq, iNegQ_eq, lenQ_eq, nthQ_eq, setQ_eq, appQ_eq, mapQ_eq, allQ_eq, anyQ_eq, dropQ_eq, takeQ_eq, revQ_eq, getDQ_eq, optLQ_eq, brecC]
    all_goals
      cases e_1 with
      | nil =>
        try dsimp only [cond_false, cond_true]
        all_goals rfl
      | cons y_1562 y_1563 =>
        try dsimp only [cond_false, cond_true]
        all_goals rfl
noncomputable def okNum_a0 :=
  fun (tab : Tb) (fs : List Ln) (θ : Un) (p : Ln) (a : Ln) => ((eqL tab fs (sbL (fun s => (thLk s θ.2)) p) a) : Bool)
noncomputable def okNum_a1 :=
  fun (tab : Tb) (fs : List Ln) (θ : Un) (p : Ln) (a : Ln) (s_1572 : Nat) => ((Bool.rec (motive := fun _ => Bool) true (okNum_a0 tab fs θ p a) (thHas s_1572 θ)) : Bool)
noncomputable def okNum (tab : Tb) (fs : List Ln) (θ : Un) (p a : Ln) : Bool :=
  (List.rec (motive := fun _ => Bool) true (fun x_1570 x_1571 _ => (Prod.rec (motive := fun _ => Bool) (fun s_1572 x_1573 => (List.rec (motive := fun _ => Bool) (okNum_a1 tab fs θ p a s_1572) (fun x_1574 x_1575 _ => true) x_1571)) x_1570)) p.2)
theorem okNum_def (tab : Tb) (fs : List Ln) (θ : Un) (p a : Ln) : okNum tab fs θ p a = (match p.2 with
  | [(s, _)] => bif thHas s θ then eqL tab fs (sbL (fun s => thLk s θ.2) p) a else true
  | _ => true) := by
  show (List.rec (motive := fun _ => Bool) true (fun x_1564 x_1565 _ => (Prod.rec (motive := fun _ => Bool) (fun s_1566 x_1567 => (List.rec (motive := fun _ => Bool) (Bool.rec (motive := fun _ => Bool) true (eqL tab fs (sbL (fun s => (thLk s θ.2)) p) a) (thHas s_1566 θ)) (fun x_1568 x_1569 _ => true) x_1565)) x_1564)) p.2) = _
  try simp only [iAddQ_eq, iMulQ_eq, iNegQ_eq, lenQ_eq, nthQ_eq, setQ_eq, appQ_eq, mapQ_eq, allQ_eq, anyQ_eq, dropQ_eq, takeQ_eq, revQ_eq, getDQ_eq, optLQ_eq, brecC]
  all_goals
    cases hq_1 : p.2 with
    | nil =>
      try dsimp only [cond_false, cond_true]
      all_goals rfl
    | cons y_1576 y_1577 =>
      try dsimp only [cond_false, cond_true]
      all_goals
        cases y_1576 with
        | mk y_1578 y_1579 =>
          try dsimp only [cond_false, cond_true]
          all_goals
            cases y_1577 with
            | nil =>
              try dsimp only [cond_false, cond_true]
              all_goals
                cases hq_4 : (thHas y_1578 θ) with
                | false =>
                  try dsimp only [cond_false, cond_true]
                  all_goals rfl
                | true =>
                  try dsimp only [cond_false, cond_true]
                  all_goals rfl
            | cons y_1580 y_1581 =>
              try dsimp only [cond_false, cond_true]
              all_goals rfl
noncomputable def okNums_a0 :=
  fun (ih : List Ln → Bool) (q_1585 : List Ln) (tab : Tb) (fs : List Ln) (θ : Un) (h_0 : Ln) (a_1584 : Ln) => ((Bool.rec (motive := fun _ => Bool) false (ih q_1585) (okNum tab fs θ h_0 a_1584)) : Bool)
noncomputable def okNums (tab : Tb) (fs : List Ln) (θ : Un) : List Ln → List Ln → Bool :=
  fun e_0 e_1 => List.rec (motive := fun _ => List Ln → Bool) (fun e_1 => (List.rec (motive := fun _ => Bool) true (fun x_1582 x_1583 _ => false) e_1)) (fun h_0 t_0 ih e_1 => (List.rec (motive := fun _ => Bool) false (fun a_1584 q_1585 _ => (okNums_a0 ih q_1585 tab fs θ h_0 a_1584)) e_1)) e_0 e_1
theorem okNums_def (tab : Tb) (fs : List Ln) (θ : Un) (e_0 : List Ln) (e_1 : List Ln) : okNums tab fs θ e_0 e_1 = (match e_0, e_1 with
  | p :: r, a :: q => bif okNum tab fs θ p a then okNums tab fs θ r q else false
  | [], [] => true
  | _, _ => false) := by
  cases e_0 with
  | nil =>
    show (List.rec (motive := fun _ => Bool) true (fun x_1586 x_1587 _ => false) e_1) = _
    try simp only [iAddQ_eq, iMulQ_eq, iNegQ_eq, lenQ_eq, nthQ_eq, setQ_eq, appQ_eq, mapQ_eq, allQ_eq, anyQ_eq, dropQ_eq, takeQ_eq, revQ_eq, getDQ_eq, optLQ_eq, brecC]
    all_goals
      cases e_1 with
      | nil =>
        try dsimp only [cond_false, cond_true]
        all_goals rfl
      | cons y_1588 y_1589 =>
        try dsimp only [cond_false, cond_true]
        all_goals rfl
  | cons h_0 t_0 =>
    show (List.rec (motive := fun _ => Bool) false (fun a_1590 q_1591 _ => (Bool.rec (motive := fun _ => Bool) false (okNums tab fs θ t_0 q_1591) (okNum tab fs θ h_0 a_1590))) e_1) = _
    try simp only [iAddQ_eq, iMulQ_eq, iNegQ_eq, lenQ_eq, nthQ_eq, setQ_eq, appQ_eq, mapQ_eq, allQ_eq, anyQ_eq, dropQ_eq, takeQ_eq, revQ_eq, getDQ_eq, optLQ_eq, brecC]
    all_goals
      cases e_1 with
      | nil =>
        try dsimp only [cond_false, cond_true]
        all_goals rfl
      | cons y_1592 y_1593 =>
        try dsimp only [cond_false, cond_true]
        all_goals
          cases hq_3 : (okNum tab fs θ h_0 y_1592) with
          | false =>
            try dsimp only [cond_false, cond_true]
            all_goals rfl
          | true =>
            try dsimp only [cond_false, cond_true]
            all_goals rfl
noncomputable def uniN  : Un → List Ln → List Ln → Un :=
  fun θ e_0 e_1 => List.rec (motive := fun _ => Un → List Ln → Un) (fun θ e_1 => θ) (fun h_0 t_0 ih θ e_1 => (List.rec (motive := fun _ => Un) θ (fun a_1594 q_1595 _ => (ih (uniL θ h_0 a_1594) q_1595)) e_1)) e_0 θ e_1
theorem uniN_def  (θ : Un) (e_0 : List Ln) (e_1 : List Ln) : uniN  θ e_0 e_1 = (match e_0, e_1 with
  | p :: r, a :: q => uniN (uniL θ p a) r q
  | _, _ => θ) := by
  cases e_0 with
  | nil =>
    show θ = _
    try simp only [iAddQ_eq, iMulQ_eq, iNegQ_eq, lenQ_eq, nthQ_eq, setQ_eq, appQ_eq, mapQ_eq, allQ_eq, anyQ_eq, dropQ_eq, takeQ_eq, revQ_eq, getDQ_eq, optLQ_eq, brecC]
    all_goals rfl
  | cons h_0 t_0 =>
    show (List.rec (motive := fun _ => Un) θ (fun a_1596 q_1597 _ => (uniN (uniL θ h_0 a_1596) t_0 q_1597)) e_1) = _
    try simp only [iAddQ_eq, iMulQ_eq, iNegQ_eq, lenQ_eq, nthQ_eq, setQ_eq, appQ_eq, mapQ_eq, allQ_eq, anyQ_eq, dropQ_eq, takeQ_eq, revQ_eq, getDQ_eq, optLQ_eq, brecC]
    all_goals
      cases e_1 with
      | nil =>
        try dsimp only [cond_false, cond_true]
        all_goals rfl
      | cons y_1598 y_1599 =>
        try dsimp only [cond_false, cond_true]
        all_goals rfl
-- checks
noncomputable def chkV_a0 :=
  fun (tab : Tb) (fs : List Ln) (θ : Th) (e_1624 : Ln) (e_1628 : Ln) (b_1623 : Bool) (b_1627 : Bool) => ((Bool.rec (motive := fun _ => Bool) false (eqL tab fs (sbL θ e_1624) e_1628) (lnB b_1623 b_1627)) : Bool)
noncomputable def chkV (tab : Tb) (fs : List Ln) (θ : Th) (p a : AV) : Bool :=
  (Sum.rec (motive := fun _ => Bool) (fun x_1621 => (Prod.rec (motive := fun _ => Bool) (fun b_1623 e_1624 => (Sum.rec (motive := fun _ => Bool) (fun x_1625 => (Prod.rec (motive := fun _ => Bool) (fun b_1627 e_1628 => (chkV_a0 tab fs θ e_1624 e_1628 b_1623 b_1627)) x_1625)) (fun x_1626 => false) a)) x_1621)) (fun x_1622 => (Sum.rec (motive := fun _ => Bool) (fun x_1629 => (Option.rec (motive := fun _ => Bool) (Sum.rec (motive := fun _ => Bool) (fun x_1632 => false) (fun x_1633 => (Sum.rec (motive := fun _ => Bool) (fun x_1634 => (Option.rec (motive := fun _ => Bool) true (fun x_1636 => false) x_1634)) (fun x_1635 => false) x_1633)) a) (fun i_1631 => (Sum.rec (motive := fun _ => Bool) (fun x_1637 => false) (fun x_1638 => (Sum.rec (motive := fun _ => Bool) (fun x_1639 => (Option.rec (motive := fun _ => Bool) false (fun j_1641 => (Nat.beq i_1631 j_1641)) x_1639)) (fun x_1640 => false) x_1638)) a)) x_1629)) (fun x_1630 => false) x_1622)) p)
theorem chkV_def (tab : Tb) (fs : List Ln) (θ : Th) (p a : AV) : chkV tab fs θ p a = (match p, a with
  | .inl (b, e), .inl (b', e') => bif lnB b b' then eqL tab fs (sbL θ e) e' else false
  | .inr (.inl (some i)), .inr (.inl (some j)) => Nat.beq i j
  | .inr (.inl none), .inr (.inl none) => true
  | _, _ => false) := by
  show (Sum.rec (motive := fun _ => Bool) (fun x_1600 => (Prod.rec (motive := fun _ => Bool) (fun b_1602 e_1603 => (Sum.rec (motive := fun _ => Bool) (fun x_1604 => (Prod.rec (motive := fun _ => Bool) (fun b_1606 e_1607 => (Bool.rec (motive := fun _ => Bool) false (eqL tab fs (sbL θ e_1603) e_1607) (lnB b_1602 b_1606))) x_1604)) (fun x_1605 => false) a)) x_1600)) (fun x_1601 => (Sum.rec (motive := fun _ => Bool) (fun x_1608 => (Option.rec (motive := fun _ => Bool) (Sum.rec (motive := fun _ => Bool) (fun x_1611 => false) (fun x_1612 => (Sum.rec (motive := fun _ => Bool) (fun x_1613 => (Option.rec (motive := fun _ => Bool) true (fun x_1615 => false) x_1613)) (fun x_1614 => false) x_1612)) a) (fun i_1610 => (Sum.rec (motive := fun _ => Bool) (fun x_1616 => false) (fun x_1617 => (Sum.rec (motive := fun _ => Bool) (fun x_1618 => (Option.rec (motive := fun _ => Bool) false (fun j_1620 => (Nat.beq i_1610 j_1620)) x_1618)) (fun x_1619 => false) x_1617)) a)) x_1608)) (fun x_1609 => false) x_1601)) p) = _
  try simp only [iAddQ_eq, iMulQ_eq, iNegQ_eq, lenQ_eq, nthQ_eq, setQ_eq, appQ_eq, mapQ_eq, allQ_eq, anyQ_eq, dropQ_eq, takeQ_eq, revQ_eq, getDQ_eq, optLQ_eq, brecC]
  all_goals
    cases p with
    | inl y_1642 =>
      try dsimp only [cond_false, cond_true]
      all_goals
        cases y_1642 with
        | mk y_1643 y_1644 =>
          try dsimp only [cond_false, cond_true]
          all_goals
            cases a with
            | inl y_1645 =>
              try dsimp only [cond_false, cond_true]
              all_goals
                cases y_1645 with
                | mk y_1646 y_1647 =>
                  try dsimp only [cond_false, cond_true]
                  all_goals
                    cases hq_5 : (lnB y_1643 y_1646) with
                    | false =>
                      try dsimp only [cond_false, cond_true]
                      all_goals rfl
                    | true =>
                      try dsimp only [cond_false, cond_true]
                      all_goals rfl
            | inr y_1648 =>
              try dsimp only [cond_false, cond_true]
              all_goals rfl
    | inr y_1649 =>
      try dsimp only [cond_false, cond_true]
      all_goals
        cases y_1649 with
        | inl y_1650 =>
          try dsimp only [cond_false, cond_true]
          all_goals
            cases y_1650 with
            | none =>
              try dsimp only [cond_false, cond_true]
              all_goals
                cases a with
                | inl y_1651 =>
                  try dsimp only [cond_false, cond_true]
                  all_goals rfl
                | inr y_1652 =>
                  try dsimp only [cond_false, cond_true]
                  all_goals
                    cases y_1652 with
                    | inl y_1653 =>
                      try dsimp only [cond_false, cond_true]
                      all_goals
                        cases y_1653 with
                        | none =>
                          try dsimp only [cond_false, cond_true]
                          all_goals rfl
                        | some y_1654 =>
                          try dsimp only [cond_false, cond_true]
                          all_goals rfl
                    | inr y_1655 =>
                      try dsimp only [cond_false, cond_true]
                      all_goals rfl
            | some y_1656 =>
              try dsimp only [cond_false, cond_true]
              all_goals
                cases a with
                | inl y_1657 =>
                  try dsimp only [cond_false, cond_true]
                  all_goals rfl
                | inr y_1658 =>
                  try dsimp only [cond_false, cond_true]
                  all_goals
                    cases y_1658 with
                    | inl y_1659 =>
                      try dsimp only [cond_false, cond_true]
                      all_goals
                        cases y_1659 with
                        | none =>
                          try dsimp only [cond_false, cond_true]
                          all_goals rfl
                        | some y_1660 =>
                          try dsimp only [cond_false, cond_true]
                          all_goals rfl
                    | inr y_1661 =>
                      try dsimp only [cond_false, cond_true]
                      all_goals rfl
        | inr y_1662 =>
          try dsimp only [cond_false, cond_true]
          all_goals rfl
noncomputable def chkVs_a0 :=
  fun (ih : List AV → Bool) (q_1666 : List AV) (tab : Tb) (fs : List Ln) (θ : Th) (h_0 : AV) (a_1665 : AV) => ((Bool.rec (motive := fun _ => Bool) false (ih q_1666) (chkV tab fs θ h_0 a_1665)) : Bool)
noncomputable def chkVs (tab : Tb) (fs : List Ln) (θ : Th) : List AV → List AV → Bool :=
  fun e_0 e_1 => List.rec (motive := fun _ => List AV → Bool) (fun e_1 => (List.rec (motive := fun _ => Bool) true (fun x_1663 x_1664 _ => false) e_1)) (fun h_0 t_0 ih e_1 => (List.rec (motive := fun _ => Bool) false (fun a_1665 q_1666 _ => (chkVs_a0 ih q_1666 tab fs θ h_0 a_1665)) e_1)) e_0 e_1
theorem chkVs_def (tab : Tb) (fs : List Ln) (θ : Th) (e_0 : List AV) (e_1 : List AV) : chkVs tab fs θ e_0 e_1 = (match e_0, e_1 with
  | [], [] => true
  | p :: r, a :: q => bif chkV tab fs θ p a then chkVs tab fs θ r q else false
  | _, _ => false) := by
  cases e_0 with
  | nil =>
    show (List.rec (motive := fun _ => Bool) true (fun x_1667 x_1668 _ => false) e_1) = _
    try simp only [iAddQ_eq, iMulQ_eq, iNegQ_eq, lenQ_eq, nthQ_eq, setQ_eq, appQ_eq, mapQ_eq, allQ_eq, anyQ_eq, dropQ_eq, takeQ_eq, revQ_eq, getDQ_eq, optLQ_eq, brecC]
    all_goals
      cases e_1 with
      | nil =>
        try dsimp only [cond_false, cond_true]
        all_goals rfl
      | cons y_1669 y_1670 =>
        try dsimp only [cond_false, cond_true]
        all_goals rfl
  | cons h_0 t_0 =>
    show (List.rec (motive := fun _ => Bool) false (fun a_1671 q_1672 _ => (Bool.rec (motive := fun _ => Bool) false (chkVs tab fs θ t_0 q_1672) (chkV tab fs θ h_0 a_1671))) e_1) = _
    try simp only [iAddQ_eq, iMulQ_eq, iNegQ_eq, lenQ_eq, nthQ_eq, setQ_eq, appQ_eq, mapQ_eq, allQ_eq, anyQ_eq, dropQ_eq, takeQ_eq, revQ_eq, getDQ_eq, optLQ_eq, brecC]
    all_goals
      cases e_1 with
      | nil =>
        try dsimp only [cond_false, cond_true]
        all_goals rfl
      | cons y_1673 y_1674 =>
        try dsimp only [cond_false, cond_true]
        all_goals
          cases hq_3 : (chkV tab fs θ h_0 y_1673) with
          | false =>
            try dsimp only [cond_false, cond_true]
            all_goals rfl
          | true =>
            try dsimp only [cond_false, cond_true]
            all_goals rfl
noncomputable def sgLe_a0 :=
  fun (ih : List Sg → List Sg → Bool) (q_1678 : List Sg) (m_1681 : Nat) => ((Bool.rec (motive := fun _ => Bool) false (ih [] q_1678) (Nat.beq m_1681 (nat_lit 0))) : Bool)
noncomputable def sgLe_a1 :=
  fun (ih : List Sg → List Sg → Bool) (r_1676 : List Sg) (q_1688 : List Sg) (tab : Tb) (fs : List Ln) (θ : Th) (e_1685 : Ln) (e_1689 : Ln) => ((Bool.rec (motive := fun _ => Bool) false (ih r_1676 q_1688) (eqL tab fs (sbL θ e_1685) e_1689)) : Bool)
noncomputable def sgLe_a2 :=
  fun (ih : List Sg → List Sg → Bool) (e_1685 : Ln) (r_1676 : List Sg) (q_1688 : List Sg) => ((ih ((.inl e_1685) :: r_1676) q_1688) : Bool)
noncomputable def sgLe_a3 :=
  fun (ih : List Sg → List Sg → Bool) (r_1676 : List Sg) (m_1695 : Nat) (lo_1693 : Int) (hi_1694 : Int) (q_1688 : List Sg) => ((ih r_1676 ((.inr (m_1695, lo_1693, hi_1694)) :: q_1688)) : Bool)
noncomputable def sgLe_a4 :=
  fun (ih : List Sg → List Sg → Bool) (r_1676 : List Sg) (m_1695 : Nat) (lo_1693 : Int) (hi_1694 : Int) (q_1688 : List Sg) (tab : Tb) (fs : List Ln) (θ : Th) (e_1685 : Ln) => ((Bool.rec (motive := fun _ => Bool) false (sgLe_a3 ih r_1676 m_1695 lo_1693 hi_1694 q_1688) (eqL tab fs (sbL θ e_1685) (kL lo_1693))) : Bool)
noncomputable def sgLe_a5 :=
  fun (ih : List Sg → List Sg → Bool) (r_1676 : List Sg) (m_1695 : Nat) (lo_1693 : Int) (hi_1694 : Int) (q_1688 : List Sg) (tab : Tb) (fs : List Ln) (θ : Th) (e_1685 : Ln) => ((Bool.rec (motive := fun _ => Bool) false (sgLe_a4 ih r_1676 m_1695 lo_1693 hi_1694 q_1688 tab fs θ e_1685) (eqI lo_1693 hi_1694)) : Bool)
noncomputable def sgLe_a6 :=
  fun (ih : List Sg → List Sg → Bool) (r_1676 : List Sg) (m_1696 : Nat) => ((Bool.rec (motive := fun _ => Bool) false (ih r_1676 []) (Nat.beq m_1696 (nat_lit 0))) : Bool)
noncomputable def sgLe_a7 :=
  fun (ih : List Sg → List Sg → Bool) (r_1676 : List Sg) (e_1702 : Ln) (q_1701 : List Sg) => ((ih r_1676 ((.inl e_1702) :: q_1701)) : Bool)
noncomputable def sgLe_a8 :=
  fun (ih : List Sg → List Sg → Bool) (m_1704 : Nat) (lo_1698 : Int) (hi_1699 : Int) (r_1676 : List Sg) (q_1701 : List Sg) => ((ih ((.inr (m_1704, lo_1698, hi_1699)) :: r_1676) q_1701) : Bool)
noncomputable def sgLe_a9 :=
  fun (ih : List Sg → List Sg → Bool) (m_1704 : Nat) (lo_1698 : Int) (hi_1699 : Int) (r_1676 : List Sg) (q_1701 : List Sg) (tab : Tb) (fs : List Ln) (e_1702 : Ln) => ((Bool.rec (motive := fun _ => Bool) false (sgLe_a8 ih m_1704 lo_1698 hi_1699 r_1676 q_1701) (inF tab fs lo_1698 hi_1699 e_1702)) : Bool)
noncomputable def sgLe_a10 :=
  fun (hi_1708 : Int) (hi_1699 : Int) (lo_1698 : Int) (lo_1707 : Int) => ((Bool.rec (motive := fun _ => Bool) false (leI hi_1708 hi_1699) (leI lo_1698 lo_1707)) : Bool)
noncomputable def sgLe_a11 :=
  fun (hi_1708 : Int) (hi_1699 : Int) (lo_1698 : Int) (lo_1707 : Int) (m_1696 : Nat) => ((Bool.rec (motive := fun _ => Bool) (sgLe_a10 hi_1708 hi_1699 lo_1698 lo_1707) true (Nat.beq m_1696 (nat_lit 0))) : Bool)
noncomputable def sgLe_a12 :=
  fun (ih : List Sg → List Sg → Bool) (m_1696 : Nat) (m_1705 : Nat) (lo_1698 : Int) (hi_1699 : Int) (r_1676 : List Sg) (q_1701 : List Sg) => ((ih ((.inr ((Nat.sub m_1696 m_1705), lo_1698, hi_1699)) :: r_1676) q_1701) : Bool)
noncomputable def sgLe_a13 :=
  fun (ih : List Sg → List Sg → Bool) (r_1676 : List Sg) (m_1705 : Nat) (m_1696 : Nat) (lo_1707 : Int) (hi_1708 : Int) (q_1701 : List Sg) => ((ih r_1676 ((.inr ((Nat.sub m_1705 m_1696), lo_1707, hi_1708)) :: q_1701)) : Bool)
noncomputable def sgLe_a14 :=
  fun (ih : List Sg → List Sg → Bool) (r_1676 : List Sg) (m_1705 : Nat) (m_1696 : Nat) (lo_1707 : Int) (hi_1708 : Int) (q_1701 : List Sg) => ((Bool.rec (motive := fun _ => Bool) (sgLe_a13 ih r_1676 m_1705 m_1696 lo_1707 hi_1708 q_1701) (ih r_1676 q_1701) (Nat.beq m_1696 m_1705)) : Bool)
noncomputable def sgLe_a15 :=
  fun (ih : List Sg → List Sg → Bool) (m_1696 : Nat) (m_1705 : Nat) (lo_1698 : Int) (hi_1699 : Int) (r_1676 : List Sg) (q_1701 : List Sg) (lo_1707 : Int) (hi_1708 : Int) => ((Bool.rec (motive := fun _ => Bool) (sgLe_a12 ih m_1696 m_1705 lo_1698 hi_1699 r_1676 q_1701) (sgLe_a14 ih r_1676 m_1705 m_1696 lo_1707 hi_1708 q_1701) (Nat.ble m_1696 m_1705)) : Bool)
noncomputable def sgLe_a16 :=
  fun (ih : List Sg → List Sg → Bool) (m_1696 : Nat) (m_1705 : Nat) (lo_1698 : Int) (hi_1699 : Int) (r_1676 : List Sg) (q_1701 : List Sg) (lo_1707 : Int) (hi_1708 : Int) => ((Bool.rec (motive := fun _ => Bool) false (sgLe_a15 ih m_1696 m_1705 lo_1698 hi_1699 r_1676 q_1701 lo_1707 hi_1708) (Bool.rec (motive := fun _ => Bool) (sgLe_a11 hi_1708 hi_1699 lo_1698 lo_1707 m_1696) true (Nat.beq m_1705 (nat_lit 0)))) : Bool)
noncomputable def sgLe (tab : Tb) (fs : List Ln) (θ : Th) : Nat → List Sg → List Sg → Bool :=
  fun e_0 e_1 e_2 => Nat.rec (motive := fun _ => List Sg → List Sg → Bool) (fun e_1 e_2 => false) (fun t_0 ih e_1 e_2 => (List.rec (motive := fun _ => Bool) (List.rec (motive := fun _ => Bool) true (fun x_1677 q_1678 _ => (Sum.rec (motive := fun _ => Bool) (fun x_1679 => false) (fun x_1680 => (Prod.rec (motive := fun _ => Bool) (fun m_1681 x_1682 => (Prod.rec (motive := fun _ => Bool) (fun x_1683 x_1684 => (sgLe_a0 ih q_1678 m_1681)) x_1682)) x_1680)) x_1677)) e_2) (fun x_1675 r_1676 _ => (Sum.rec (motive := fun _ => Bool) (fun e_1685 => (List.rec (motive := fun _ => Bool) false (fun x_1687 q_1688 _ => (Sum.rec (motive := fun _ => Bool) (fun e_1689 => (sgLe_a1 ih r_1676 q_1688 tab fs θ e_1685 e_1689)) (fun x_1690 => (Prod.rec (motive := fun _ => Bool) (fun m_1691 x_1692 => (Prod.rec (motive := fun _ => Bool) (fun lo_1693 hi_1694 => (Nat.rec (motive := fun _ => Bool) (sgLe_a2 ih e_1685 r_1676 q_1688) (fun m_1695 _ => (sgLe_a5 ih r_1676 m_1695 lo_1693 hi_1694 q_1688 tab fs θ e_1685)) m_1691)) x_1692)) x_1690)) x_1687)) e_2)) (fun x_1686 => (Prod.rec (motive := fun _ => Bool) (fun m_1696 x_1697 => (Prod.rec (motive := fun _ => Bool) (fun lo_1698 hi_1699 => (List.rec (motive := fun _ => Bool) (sgLe_a6 ih r_1676 m_1696) (fun x_1700 q_1701 _ => (Sum.rec (motive := fun _ => Bool) (fun e_1702 => (Nat.rec (motive := fun _ => Bool) (sgLe_a7 ih r_1676 e_1702 q_1701) (fun m_1704 _ => (sgLe_a9 ih m_1704 lo_1698 hi_1699 r_1676 q_1701 tab fs e_1702)) m_1696)) (fun x_1703 => (Prod.rec (motive := fun _ => Bool) (fun m_1705 x_1706 => (Prod.rec (motive := fun _ => Bool) (fun lo_1707 hi_1708 => (sgLe_a16 ih m_1696 m_1705 lo_1698 hi_1699 r_1676 q_1701 lo_1707 hi_1708)) x_1706)) x_1703)) x_1700)) e_2)) x_1697)) x_1686)) x_1675)) e_1)) e_0 e_1 e_2
theorem sgLe_def (tab : Tb) (fs : List Ln) (θ : Th) (e_0 : Nat) (e_1 : List Sg) (e_2 : List Sg) : sgLe tab fs θ e_0 e_1 e_2 = (match e_0, e_1, e_2 with
  | 0, _, _ => false
  | n + 1, p, a => match p, a with
    | [], [] => true
    | .inl e :: r, .inl e' :: q => bif eqL tab fs (sbL θ e) e' then sgLe tab fs θ n r q else false
    | .inl e :: r, .inr (m, lo, hi) :: q => match m with
      | 0 => sgLe tab fs θ n (.inl e :: r) q
      | m + 1 => bif eqI lo hi then (bif eqL tab fs (sbL θ e) (kL lo) then sgLe tab fs θ n r (.inr (m, lo, hi) :: q) else false) else false
    | .inr (m, lo, hi) :: r, [] => bif Nat.beq m 0 then sgLe tab fs θ n r [] else false
    | [], .inr (m, _, _) :: q => bif Nat.beq m 0 then sgLe tab fs θ n [] q else false
    | .inr (m, lo, hi) :: r, .inl e' :: q => match m with
      | 0 => sgLe tab fs θ n r (.inl e' :: q)
      | m + 1 => bif inF tab fs lo hi e' then sgLe tab fs θ n (.inr (m, lo, hi) :: r) q else false
    | .inr (m, lo, hi) :: r, .inr (m', lo', hi') :: q => bif (bif Nat.beq m' 0 then true else bif Nat.beq m 0 then true else bif leI lo lo' then leI hi' hi else false) then (bif Nat.ble m m' then (bif Nat.beq m m' then sgLe tab fs θ n r q else sgLe tab fs θ n r (.inr (Nat.sub m' m, lo', hi') :: q)) else sgLe tab fs θ n (.inr (Nat.sub m m', lo, hi) :: r) q) else false
    | _, _ => false) := by
  cases e_0 with
  | zero =>
    show false = _
    try simp only [iAddQ_eq, iMulQ_eq, iNegQ_eq, lenQ_eq, nthQ_eq, setQ_eq, appQ_eq, mapQ_eq, allQ_eq, anyQ_eq, dropQ_eq, takeQ_eq, revQ_eq, getDQ_eq, optLQ_eq, brecC]
    all_goals rfl
  | succ t_0 =>
    show (List.rec (motive := fun _ => Bool) (List.rec (motive := fun _ => Bool) true (fun x_1711 q_1712 _ => (Sum.rec (motive := fun _ => Bool) (fun x_1713 => false) (fun x_1714 => (Prod.rec (motive := fun _ => Bool) (fun m_1715 x_1716 => (Prod.rec (motive := fun _ => Bool) (fun x_1717 x_1718 => (Bool.rec (motive := fun _ => Bool) false (sgLe tab fs θ t_0 [] q_1712) (Nat.beq m_1715 (nat_lit 0)))) x_1716)) x_1714)) x_1711)) e_2) (fun x_1709 r_1710 _ => (Sum.rec (motive := fun _ => Bool) (fun e_1719 => (List.rec (motive := fun _ => Bool) false (fun x_1721 q_1722 _ => (Sum.rec (motive := fun _ => Bool) (fun e_1723 => (Bool.rec (motive := fun _ => Bool) false (sgLe tab fs θ t_0 r_1710 q_1722) (eqL tab fs (sbL θ e_1719) e_1723))) (fun x_1724 => (Prod.rec (motive := fun _ => Bool) (fun m_1725 x_1726 => (Prod.rec (motive := fun _ => Bool) (fun lo_1727 hi_1728 => (Nat.rec (motive := fun _ => Bool) (sgLe tab fs θ t_0 ((.inl e_1719) :: r_1710) q_1722) (fun m_1729 _ => (Bool.rec (motive := fun _ => Bool) false (Bool.rec (motive := fun _ => Bool) false (sgLe tab fs θ t_0 r_1710 ((.inr (m_1729, lo_1727, hi_1728)) :: q_1722)) (eqL tab fs (sbL θ e_1719) (kL lo_1727))) (eqI lo_1727 hi_1728))) m_1725)) x_1726)) x_1724)) x_1721)) e_2)) (fun x_1720 => (Prod.rec (motive := fun _ => Bool) (fun m_1730 x_1731 => (Prod.rec (motive := fun _ => Bool) (fun lo_1732 hi_1733 => (List.rec (motive := fun _ => Bool) (Bool.rec (motive := fun _ => Bool) false (sgLe tab fs θ t_0 r_1710 []) (Nat.beq m_1730 (nat_lit 0))) (fun x_1734 q_1735 _ => (Sum.rec (motive := fun _ => Bool) (fun e_1736 => (Nat.rec (motive := fun _ => Bool) (sgLe tab fs θ t_0 r_1710 ((.inl e_1736) :: q_1735)) (fun m_1738 _ => (Bool.rec (motive := fun _ => Bool) false (sgLe tab fs θ t_0 ((.inr (m_1738, lo_1732, hi_1733)) :: r_1710) q_1735) (inF tab fs lo_1732 hi_1733 e_1736))) m_1730)) (fun x_1737 => (Prod.rec (motive := fun _ => Bool) (fun m_1739 x_1740 => (Prod.rec (motive := fun _ => Bool) (fun lo_1741 hi_1742 => (Bool.rec (motive := fun _ => Bool) false (Bool.rec (motive := fun _ => Bool) (sgLe tab fs θ t_0 ((.inr ((Nat.sub m_1730 m_1739), lo_1732, hi_1733)) :: r_1710) q_1735) (Bool.rec (motive := fun _ => Bool) (sgLe tab fs θ t_0 r_1710 ((.inr ((Nat.sub m_1739 m_1730), lo_1741, hi_1742)) :: q_1735)) (sgLe tab fs θ t_0 r_1710 q_1735) (Nat.beq m_1730 m_1739)) (Nat.ble m_1730 m_1739)) (Bool.rec (motive := fun _ => Bool) (Bool.rec (motive := fun _ => Bool) (Bool.rec (motive := fun _ => Bool) false (leI hi_1742 hi_1733) (leI lo_1732 lo_1741)) true (Nat.beq m_1730 (nat_lit 0))) true (Nat.beq m_1739 (nat_lit 0))))) x_1740)) x_1737)) x_1734)) e_2)) x_1731)) x_1720)) x_1709)) e_1) = _
    try simp only [iAddQ_eq, iMulQ_eq, iNegQ_eq, lenQ_eq, nthQ_eq, setQ_eq, appQ_eq, mapQ_eq, allQ_eq, anyQ_eq, dropQ_eq, takeQ_eq, revQ_eq, getDQ_eq, optLQ_eq, brecC]
    all_goals
      cases e_1 with
      | nil =>
        try dsimp only [cond_false, cond_true]
        all_goals
          cases e_2 with
          | nil =>
            try dsimp only [cond_false, cond_true]
            all_goals rfl
          | cons y_1743 y_1744 =>
            try dsimp only [cond_false, cond_true]
            all_goals
              cases y_1743 with
              | inl y_1745 =>
                try dsimp only [cond_false, cond_true]
                all_goals rfl
              | inr y_1746 =>
                try dsimp only [cond_false, cond_true]
                all_goals
                  cases y_1746 with
                  | mk y_1747 y_1748 =>
                    try dsimp only [cond_false, cond_true]
                    all_goals
                      cases y_1748 with
                      | mk y_1749 y_1750 =>
                        try dsimp only [cond_false, cond_true]
                        all_goals
                          cases hq_6 : (Nat.beq y_1747 0) with
                          | false =>
                            try dsimp only [cond_false, cond_true]
                            all_goals rfl
                          | true =>
                            try dsimp only [cond_false, cond_true]
                            all_goals rfl
      | cons y_1751 y_1752 =>
        try dsimp only [cond_false, cond_true]
        all_goals
          cases y_1751 with
          | inl y_1753 =>
            try dsimp only [cond_false, cond_true]
            all_goals
              cases e_2 with
              | nil =>
                try dsimp only [cond_false, cond_true]
                all_goals rfl
              | cons y_1754 y_1755 =>
                try dsimp only [cond_false, cond_true]
                all_goals
                  cases y_1754 with
                  | inl y_1756 =>
                    try dsimp only [cond_false, cond_true]
                    all_goals
                      cases hq_10 : (eqL tab fs ((sbL θ y_1753)) y_1756) with
                      | false =>
                        try dsimp only [cond_false, cond_true]
                        all_goals rfl
                      | true =>
                        try dsimp only [cond_false, cond_true]
                        all_goals rfl
                  | inr y_1757 =>
                    try dsimp only [cond_false, cond_true]
                    all_goals
                      cases y_1757 with
                      | mk y_1758 y_1759 =>
                        try dsimp only [cond_false, cond_true]
                        all_goals
                          cases y_1759 with
                          | mk y_1760 y_1761 =>
                            try dsimp only [cond_false, cond_true]
                            all_goals
                              cases y_1758 with
                              | zero =>
                                try dsimp only [cond_false, cond_true]
                                all_goals rfl
                              | succ y_1762 =>
                                try dsimp only [cond_false, cond_true]
                                all_goals
                                  cases hq_14 : (eqI y_1760 y_1761) with
                                  | false =>
                                    try dsimp only [cond_false, cond_true]
                                    all_goals rfl
                                  | true =>
                                    try dsimp only [cond_false, cond_true]
                                    all_goals
                                      cases hq_15 : (eqL tab fs ((sbL θ y_1753)) ((kL y_1760))) with
                                      | false =>
                                        try dsimp only [cond_false, cond_true]
                                        all_goals rfl
                                      | true =>
                                        try dsimp only [cond_false, cond_true]
                                        all_goals rfl
          | inr y_1763 =>
            try dsimp only [cond_false, cond_true]
            all_goals
              cases y_1763 with
              | mk y_1764 y_1765 =>
                try dsimp only [cond_false, cond_true]
                all_goals
                  cases y_1765 with
                  | mk y_1766 y_1767 =>
                    try dsimp only [cond_false, cond_true]
                    all_goals
                      cases e_2 with
                      | nil =>
                        try dsimp only [cond_false, cond_true]
                        all_goals
                          cases hq_19 : (Nat.beq y_1764 0) with
                          | false =>
                            try dsimp only [cond_false, cond_true]
                            all_goals rfl
                          | true =>
                            try dsimp only [cond_false, cond_true]
                            all_goals rfl
                      | cons y_1768 y_1769 =>
                        try dsimp only [cond_false, cond_true]
                        all_goals
                          cases y_1768 with
                          | inl y_1770 =>
                            try dsimp only [cond_false, cond_true]
                            all_goals
                              cases y_1764 with
                              | zero =>
                                try dsimp only [cond_false, cond_true]
                                all_goals rfl
                              | succ y_1771 =>
                                try dsimp only [cond_false, cond_true]
                                all_goals
                                  cases hq_22 : (inF tab fs y_1766 y_1767 y_1770) with
                                  | false =>
                                    try dsimp only [cond_false, cond_true]
                                    all_goals rfl
                                  | true =>
                                    try dsimp only [cond_false, cond_true]
                                    all_goals rfl
                          | inr y_1772 =>
                            try dsimp only [cond_false, cond_true]
                            all_goals
                              cases y_1772 with
                              | mk y_1773 y_1774 =>
                                try dsimp only [cond_false, cond_true]
                                all_goals
                                  cases y_1774 with
                                  | mk y_1775 y_1776 =>
                                    try dsimp only [cond_false, cond_true]
                                    all_goals
                                      cases hq_25 : ((bif (Nat.beq y_1773 0) then true else (bif (Nat.beq y_1764 0) then true else (bif (leI y_1766 y_1775) then (leI y_1776 y_1767) else false)))) with
                                      | false =>
                                        try dsimp only [cond_false, cond_true]
                                        all_goals rfl
                                      | true =>
                                        try dsimp only [cond_false, cond_true]
                                        all_goals
                                          cases hq_26 : (Nat.ble y_1764 y_1773) with
                                          | false =>
                                            try dsimp only [cond_false, cond_true]
                                            all_goals rfl
                                          | true =>
                                            try dsimp only [cond_false, cond_true]
                                            all_goals
                                              cases hq_27 : (Nat.beq y_1764 y_1773) with
                                              | false =>
                                                try dsimp only [cond_false, cond_true]
                                                all_goals rfl
                                              | true =>
                                                try dsimp only [cond_false, cond_true]
                                                all_goals rfl
noncomputable def eqO_a0 :=
  fun (ih : List (Option Nat) → Bool) (q_1784 : List (Option Nat)) (i_1779 : Nat) (j_1785 : Nat) => ((Bool.rec (motive := fun _ => Bool) false (ih q_1784) (Nat.beq i_1779 j_1785)) : Bool)
noncomputable def eqO  : List (Option Nat) → List (Option Nat) → Bool :=
  fun e_0 e_1 => List.rec (motive := fun _ => List (Option Nat) → Bool) (fun e_1 => (List.rec (motive := fun _ => Bool) true (fun x_1777 x_1778 _ => false) e_1)) (fun h_0 t_0 ih e_1 => (Option.rec (motive := fun _ => Bool) (List.rec (motive := fun _ => Bool) false (fun x_1780 q_1781 _ => (Option.rec (motive := fun _ => Bool) (ih q_1781) (fun x_1782 => false) x_1780)) e_1) (fun i_1779 => (List.rec (motive := fun _ => Bool) false (fun x_1783 q_1784 _ => (Option.rec (motive := fun _ => Bool) false (fun j_1785 => (eqO_a0 ih q_1784 i_1779 j_1785)) x_1783)) e_1)) h_0)) e_0 e_1
theorem eqO_def  (e_0 : List (Option Nat)) (e_1 : List (Option Nat)) : eqO  e_0 e_1 = (match e_0, e_1 with
  | [], [] => true
  | some i :: r, some j :: q => bif Nat.beq i j then eqO r q else false
  | none :: r, none :: q => eqO r q
  | _, _ => false) := by
  cases e_0 with
  | nil =>
    show (List.rec (motive := fun _ => Bool) true (fun x_1786 x_1787 _ => false) e_1) = _
    try simp only [iAddQ_eq, iMulQ_eq, iNegQ_eq, lenQ_eq, nthQ_eq, setQ_eq, appQ_eq, mapQ_eq, allQ_eq, anyQ_eq, dropQ_eq, takeQ_eq, revQ_eq, getDQ_eq, optLQ_eq, brecC]
    all_goals
      cases e_1 with
      | nil =>
        try dsimp only [cond_false, cond_true]
        all_goals rfl
      | cons y_1788 y_1789 =>
        try dsimp only [cond_false, cond_true]
        all_goals rfl
  | cons h_0 t_0 =>
    show (Option.rec (motive := fun _ => Bool) (List.rec (motive := fun _ => Bool) false (fun x_1791 q_1792 _ => (Option.rec (motive := fun _ => Bool) (eqO t_0 q_1792) (fun x_1793 => false) x_1791)) e_1) (fun i_1790 => (List.rec (motive := fun _ => Bool) false (fun x_1794 q_1795 _ => (Option.rec (motive := fun _ => Bool) false (fun j_1796 => (Bool.rec (motive := fun _ => Bool) false (eqO t_0 q_1795) (Nat.beq i_1790 j_1796))) x_1794)) e_1)) h_0) = _
    try simp only [iAddQ_eq, iMulQ_eq, iNegQ_eq, lenQ_eq, nthQ_eq, setQ_eq, appQ_eq, mapQ_eq, allQ_eq, anyQ_eq, dropQ_eq, takeQ_eq, revQ_eq, getDQ_eq, optLQ_eq, brecC]
    all_goals
      cases h_0 with
      | none =>
        try dsimp only [cond_false, cond_true]
        all_goals
          cases e_1 with
          | nil =>
            try dsimp only [cond_false, cond_true]
            all_goals rfl
          | cons y_1797 y_1798 =>
            try dsimp only [cond_false, cond_true]
            all_goals
              cases y_1797 with
              | none =>
                try dsimp only [cond_false, cond_true]
                all_goals rfl
              | some y_1799 =>
                try dsimp only [cond_false, cond_true]
                all_goals rfl
      | some y_1800 =>
        try dsimp only [cond_false, cond_true]
        all_goals
          cases e_1 with
          | nil =>
            try dsimp only [cond_false, cond_true]
            all_goals rfl
          | cons y_1801 y_1802 =>
            try dsimp only [cond_false, cond_true]
            all_goals
              cases y_1801 with
              | none =>
                try dsimp only [cond_false, cond_true]
                all_goals rfl
              | some y_1803 =>
                try dsimp only [cond_false, cond_true]
                all_goals
                  cases hq_7 : (Nat.beq y_1800 y_1803) with
                  | false =>
                    try dsimp only [cond_false, cond_true]
                    all_goals rfl
                  | true =>
                    try dsimp only [cond_false, cond_true]
                    all_goals rfl
noncomputable def eqN_a0 :=
  fun (ih : List Nat → Bool) (q_1807 : List Nat) (h_0 : Nat) (j_1806 : Nat) => ((Bool.rec (motive := fun _ => Bool) false (ih q_1807) (Nat.beq h_0 j_1806)) : Bool)
noncomputable def eqN  : List Nat → List Nat → Bool :=
  fun e_0 e_1 => List.rec (motive := fun _ => List Nat → Bool) (fun e_1 => (List.rec (motive := fun _ => Bool) true (fun x_1804 x_1805 _ => false) e_1)) (fun h_0 t_0 ih e_1 => (List.rec (motive := fun _ => Bool) false (fun j_1806 q_1807 _ => (eqN_a0 ih q_1807 h_0 j_1806)) e_1)) e_0 e_1
theorem eqN_def  (e_0 : List Nat) (e_1 : List Nat) : eqN  e_0 e_1 = (match e_0, e_1 with
  | [], [] => true
  | i :: r, j :: q => bif Nat.beq i j then eqN r q else false
  | _, _ => false) := by
  cases e_0 with
  | nil =>
    show (List.rec (motive := fun _ => Bool) true (fun x_1808 x_1809 _ => false) e_1) = _
    try simp only [iAddQ_eq, iMulQ_eq, iNegQ_eq, lenQ_eq, nthQ_eq, setQ_eq, appQ_eq, mapQ_eq, allQ_eq, anyQ_eq, dropQ_eq, takeQ_eq, revQ_eq, getDQ_eq, optLQ_eq, brecC]
    all_goals
      cases e_1 with
      | nil =>
        try dsimp only [cond_false, cond_true]
        all_goals rfl
      | cons y_1810 y_1811 =>
        try dsimp only [cond_false, cond_true]
        all_goals rfl
  | cons h_0 t_0 =>
    show (List.rec (motive := fun _ => Bool) false (fun j_1812 q_1813 _ => (Bool.rec (motive := fun _ => Bool) false (eqN t_0 q_1813) (Nat.beq h_0 j_1812))) e_1) = _
    try simp only [iAddQ_eq, iMulQ_eq, iNegQ_eq, lenQ_eq, nthQ_eq, setQ_eq, appQ_eq, mapQ_eq, allQ_eq, anyQ_eq, dropQ_eq, takeQ_eq, revQ_eq, getDQ_eq, optLQ_eq, brecC]
    all_goals
      cases e_1 with
      | nil =>
        try dsimp only [cond_false, cond_true]
        all_goals rfl
      | cons y_1814 y_1815 =>
        try dsimp only [cond_false, cond_true]
        all_goals
          cases hq_3 : (Nat.beq h_0 y_1814) with
          | false =>
            try dsimp only [cond_false, cond_true]
            all_goals rfl
          | true =>
            try dsimp only [cond_false, cond_true]
            all_goals rfl
noncomputable def conLe (tab : Tb) (fs : List Ln) (θ : Th) (p a : List Sg) : Bool :=
  (List.rec (motive := fun _ => Bool) false (fun x_1828 x_1829 _ => (Sum.rec (motive := fun _ => Bool) (fun e_1830 => (List.rec (motive := fun _ => Bool) (List.rec (motive := fun _ => Bool) false (fun x_1834 x_1835 _ => (Sum.rec (motive := fun _ => Bool) (fun e_1836 => (List.rec (motive := fun _ => Bool) (eqL tab fs (sbL θ e_1830) e_1836) (fun x_1838 x_1839 _ => false) x_1835)) (fun x_1837 => false) x_1834)) a) (fun x_1832 x_1833 _ => false) x_1829)) (fun x_1831 => false) x_1828)) p)
theorem conLe_def (tab : Tb) (fs : List Ln) (θ : Th) (p a : List Sg) : conLe tab fs θ p a = (match p, a with
  | [.inl e], [.inl e'] => eqL tab fs (sbL θ e) e'
  | _, _ => false) := by
  show (List.rec (motive := fun _ => Bool) false (fun x_1816 x_1817 _ => (Sum.rec (motive := fun _ => Bool) (fun e_1818 => (List.rec (motive := fun _ => Bool) (List.rec (motive := fun _ => Bool) false (fun x_1822 x_1823 _ => (Sum.rec (motive := fun _ => Bool) (fun e_1824 => (List.rec (motive := fun _ => Bool) (eqL tab fs (sbL θ e_1818) e_1824) (fun x_1826 x_1827 _ => false) x_1823)) (fun x_1825 => false) x_1822)) a) (fun x_1820 x_1821 _ => false) x_1817)) (fun x_1819 => false) x_1816)) p) = _
  all_goals
    cases p with
    | nil =>
      try dsimp only [cond_false, cond_true]
      all_goals rfl
    | cons y_1840 y_1841 =>
      try dsimp only [cond_false, cond_true]
      all_goals
        cases y_1840 with
        | inl y_1842 =>
          try dsimp only [cond_false, cond_true]
          all_goals
            cases y_1841 with
            | nil =>
              try dsimp only [cond_false, cond_true]
              all_goals
                cases a with
                | nil =>
                  try dsimp only [cond_false, cond_true]
                  all_goals rfl
                | cons y_1843 y_1844 =>
                  try dsimp only [cond_false, cond_true]
                  all_goals
                    cases y_1843 with
                    | inl y_1845 =>
                      try dsimp only [cond_false, cond_true]
                      all_goals
                        cases y_1844 with
                        | nil =>
                          try dsimp only [cond_false, cond_true]
                          all_goals rfl
                        | cons y_1846 y_1847 =>
                          try dsimp only [cond_false, cond_true]
                          all_goals rfl
                    | inr y_1848 =>
                      try dsimp only [cond_false, cond_true]
                      all_goals rfl
            | cons y_1849 y_1850 =>
              try dsimp only [cond_false, cond_true]
              all_goals rfl
        | inr y_1851 =>
          try dsimp only [cond_false, cond_true]
          all_goals rfl
noncomputable def chkC_a0 :=
  fun (tab : Tb) (fs : List Ln) (θ : Th) (l_1891 : List AV) (l_1895 : List AV) (c_1890 : Nat) (c_1894 : Nat) => ((Bool.rec (motive := fun _ => Bool) false (chkVs tab fs θ l_1891 l_1895) (Nat.beq c_1890 c_1894)) : Bool)
noncomputable def chkC_a1 :=
  fun (tab : Tb) (fs : List Ln) (θ : Th) (s_1898 : List Sg) (s_1904 : List Sg) => ((sgLe tab fs θ (nat_lit 600) s_1898 s_1904) : Bool)
noncomputable def chkC_a2 :=
  fun (tab : Tb) (fs : List Ln) (θ : Th) (s_1898 : List Sg) (s_1904 : List Sg) (k_1896 : Nat) => ((Bool.rec (motive := fun _ => Bool) (conLe tab fs θ s_1898 s_1904) (chkC_a1 tab fs θ s_1898 s_1904) (Nat.blt k_1896 (nat_lit 100))) : Bool)
noncomputable def chkC_a3 :=
  fun (tab : Tb) (fs : List Ln) (θ : Th) (s_1898 : List Sg) (s_1904 : List Sg) (k_1896 : Nat) (k_1902 : Nat) => ((Bool.rec (motive := fun _ => Bool) false (chkC_a2 tab fs θ s_1898 s_1904 k_1896) (Nat.beq k_1896 k_1902)) : Bool)
noncomputable def chkC_a4 :=
  fun (m_1914 : Nat) (m_1906 : Nat) => ((Nat.beq m_1914 (Nat.add zB m_1906)) : Bool)
noncomputable def chkC_a5 :=
  fun (m_1914 : Nat) (m_1906 : Nat) => ((Bool.rec (motive := fun _ => Bool) false (chkC_a4 m_1914 m_1906) (Nat.blt m_1906 zB)) : Bool)
noncomputable def chkC_a6 :=
  fun (m_1914 : Nat) (m_1906 : Nat) => ((Bool.rec (motive := fun _ => Bool) (chkC_a5 m_1914 m_1906) true (Nat.beq m_1906 m_1914)) : Bool)
noncomputable def chkC_a7 :=
  fun (m_1914 : Nat) (m_1906 : Nat) (k_1896 : Nat) (k_1910 : Nat) => ((Bool.rec (motive := fun _ => Bool) false (chkC_a6 m_1914 m_1906) (Nat.beq k_1896 k_1910)) : Bool)
noncomputable def chkC_a8 :=
  fun (l_1907 : List (Option Nat)) (l_1923 : List (Option Nat)) (k_1896 : Nat) (k_1918 : Nat) => ((Bool.rec (motive := fun _ => Bool) false (eqO l_1907 l_1923) (Nat.beq k_1896 k_1918)) : Bool)
noncomputable def chkC (tab : Tb) (fs : List Ln) (θ : Th) (p a : AC) : Bool :=
  (Sum.rec (motive := fun _ => Bool) (fun x_1888 => (Prod.rec (motive := fun _ => Bool) (fun c_1890 l_1891 => (Sum.rec (motive := fun _ => Bool) (fun x_1892 => (Prod.rec (motive := fun _ => Bool) (fun c_1894 l_1895 => (chkC_a0 tab fs θ l_1891 l_1895 c_1890 c_1894)) x_1892)) (fun x_1893 => false) a)) x_1888)) (fun x_1889 => (Prod.rec (motive := fun _ => Bool) (fun k_1896 x_1897 => (Sum.rec (motive := fun _ => Bool) (fun s_1898 => (Sum.rec (motive := fun _ => Bool) (fun x_1900 => false) (fun x_1901 => (Prod.rec (motive := fun _ => Bool) (fun k_1902 x_1903 => (Sum.rec (motive := fun _ => Bool) (fun s_1904 => (chkC_a3 tab fs θ s_1898 s_1904 k_1896 k_1902)) (fun x_1905 => false) x_1903)) x_1901)) a)) (fun x_1899 => (Sum.rec (motive := fun _ => Bool) (fun m_1906 => (Sum.rec (motive := fun _ => Bool) (fun x_1908 => false) (fun x_1909 => (Prod.rec (motive := fun _ => Bool) (fun k_1910 x_1911 => (Sum.rec (motive := fun _ => Bool) (fun x_1912 => false) (fun x_1913 => (Sum.rec (motive := fun _ => Bool) (fun m_1914 => (chkC_a7 m_1914 m_1906 k_1896 k_1910)) (fun x_1915 => false) x_1913)) x_1911)) x_1909)) a)) (fun l_1907 => (Sum.rec (motive := fun _ => Bool) (fun x_1916 => false) (fun x_1917 => (Prod.rec (motive := fun _ => Bool) (fun k_1918 x_1919 => (Sum.rec (motive := fun _ => Bool) (fun x_1920 => false) (fun x_1921 => (Sum.rec (motive := fun _ => Bool) (fun x_1922 => false) (fun l_1923 => (chkC_a8 l_1907 l_1923 k_1896 k_1918)) x_1921)) x_1919)) x_1917)) a)) x_1899)) x_1897)) x_1889)) p)
theorem chkC_def (tab : Tb) (fs : List Ln) (θ : Th) (p a : AC) : chkC tab fs θ p a = (match p, a with
  | .inl (c, l), .inl (c', l') => bif Nat.beq c c' then chkVs tab fs θ l l' else false
  | .inr (k, .inl s), .inr (k', .inl s') => bif Nat.beq k k' then (bif Nat.blt k 100 then sgLe tab fs θ 600 s s' else conLe tab fs θ s s') else false
  | .inr (k, .inr (.inl m)), .inr (k', .inr (.inl m')) => bif Nat.beq k k' then (bif Nat.beq m m' then true else bif Nat.blt m zB then Nat.beq m' (Nat.add zB m) else false) else false
  | .inr (k, .inr (.inr l)), .inr (k', .inr (.inr l')) => bif Nat.beq k k' then eqO l l' else false
  | _, _ => false) := by
  show (Sum.rec (motive := fun _ => Bool) (fun x_1852 => (Prod.rec (motive := fun _ => Bool) (fun c_1854 l_1855 => (Sum.rec (motive := fun _ => Bool) (fun x_1856 => (Prod.rec (motive := fun _ => Bool) (fun c_1858 l_1859 => (Bool.rec (motive := fun _ => Bool) false (chkVs tab fs θ l_1855 l_1859) (Nat.beq c_1854 c_1858))) x_1856)) (fun x_1857 => false) a)) x_1852)) (fun x_1853 => (Prod.rec (motive := fun _ => Bool) (fun k_1860 x_1861 => (Sum.rec (motive := fun _ => Bool) (fun s_1862 => (Sum.rec (motive := fun _ => Bool) (fun x_1864 => false) (fun x_1865 => (Prod.rec (motive := fun _ => Bool) (fun k_1866 x_1867 => (Sum.rec (motive := fun _ => Bool) (fun s_1868 => (Bool.rec (motive := fun _ => Bool) false (Bool.rec (motive := fun _ => Bool) (conLe tab fs θ s_1862 s_1868) (sgLe tab fs θ (nat_lit 600) s_1862 s_1868) (Nat.blt k_1860 (nat_lit 100))) (Nat.beq k_1860 k_1866))) (fun x_1869 => false) x_1867)) x_1865)) a)) (fun x_1863 => (Sum.rec (motive := fun _ => Bool) (fun m_1870 => (Sum.rec (motive := fun _ => Bool) (fun x_1872 => false) (fun x_1873 => (Prod.rec (motive := fun _ => Bool) (fun k_1874 x_1875 => (Sum.rec (motive := fun _ => Bool) (fun x_1876 => false) (fun x_1877 => (Sum.rec (motive := fun _ => Bool) (fun m_1878 => (Bool.rec (motive := fun _ => Bool) false (Bool.rec (motive := fun _ => Bool) (Bool.rec (motive := fun _ => Bool) false (Nat.beq m_1878 (Nat.add zB m_1870)) (Nat.blt m_1870 zB)) true (Nat.beq m_1870 m_1878)) (Nat.beq k_1860 k_1874))) (fun x_1879 => false) x_1877)) x_1875)) x_1873)) a)) (fun l_1871 => (Sum.rec (motive := fun _ => Bool) (fun x_1880 => false) (fun x_1881 => (Prod.rec (motive := fun _ => Bool) (fun k_1882 x_1883 => (Sum.rec (motive := fun _ => Bool) (fun x_1884 => false) (fun x_1885 => (Sum.rec (motive := fun _ => Bool) (fun x_1886 => false) (fun l_1887 => (Bool.rec (motive := fun _ => Bool) false (eqO l_1871 l_1887) (Nat.beq k_1860 k_1882))) x_1885)) x_1883)) x_1881)) a)) x_1863)) x_1861)) x_1853)) p) = _
  try simp only [iAddQ_eq, iMulQ_eq, iNegQ_eq, lenQ_eq, nthQ_eq, setQ_eq, appQ_eq, mapQ_eq, allQ_eq, anyQ_eq, dropQ_eq, takeQ_eq, revQ_eq, getDQ_eq, optLQ_eq, brecC]
  all_goals
    cases p with
    | inl y_1924 =>
      try dsimp only [cond_false, cond_true]
      all_goals
        cases y_1924 with
        | mk y_1925 y_1926 =>
          try dsimp only [cond_false, cond_true]
          all_goals
            cases a with
            | inl y_1927 =>
              try dsimp only [cond_false, cond_true]
              all_goals
                cases y_1927 with
                | mk y_1928 y_1929 =>
                  try dsimp only [cond_false, cond_true]
                  all_goals
                    cases hq_5 : (Nat.beq y_1925 y_1928) with
                    | false =>
                      try dsimp only [cond_false, cond_true]
                      all_goals rfl
                    | true =>
                      try dsimp only [cond_false, cond_true]
                      all_goals rfl
            | inr y_1930 =>
              try dsimp only [cond_false, cond_true]
              all_goals rfl
    | inr y_1931 =>
      try dsimp only [cond_false, cond_true]
      all_goals
        cases y_1931 with
        | mk y_1932 y_1933 =>
          try dsimp only [cond_false, cond_true]
          all_goals
            cases y_1933 with
            | inl y_1934 =>
              try dsimp only [cond_false, cond_true]
              all_goals
                cases a with
                | inl y_1935 =>
                  try dsimp only [cond_false, cond_true]
                  all_goals rfl
                | inr y_1936 =>
                  try dsimp only [cond_false, cond_true]
                  all_goals
                    cases y_1936 with
                    | mk y_1937 y_1938 =>
                      try dsimp only [cond_false, cond_true]
                      all_goals
                        cases y_1938 with
                        | inl y_1939 =>
                          try dsimp only [cond_false, cond_true]
                          all_goals
                            cases hq_11 : (Nat.beq y_1932 y_1937) with
                            | false =>
                              try dsimp only [cond_false, cond_true]
                              all_goals rfl
                            | true =>
                              try dsimp only [cond_false, cond_true]
                              all_goals
                                cases hq_12 : (Nat.blt y_1932 100) with
                                | false =>
                                  try dsimp only [cond_false, cond_true]
                                  all_goals rfl
                                | true =>
                                  try dsimp only [cond_false, cond_true]
                                  all_goals rfl
                        | inr y_1940 =>
                          try dsimp only [cond_false, cond_true]
                          all_goals rfl
            | inr y_1941 =>
              try dsimp only [cond_false, cond_true]
              all_goals
                cases y_1941 with
                | inl y_1942 =>
                  try dsimp only [cond_false, cond_true]
                  all_goals
                    cases a with
                    | inl y_1943 =>
                      try dsimp only [cond_false, cond_true]
                      all_goals rfl
                    | inr y_1944 =>
                      try dsimp only [cond_false, cond_true]
                      all_goals
                        cases y_1944 with
                        | mk y_1945 y_1946 =>
                          try dsimp only [cond_false, cond_true]
                          all_goals
                            cases y_1946 with
                            | inl y_1947 =>
                              try dsimp only [cond_false, cond_true]
                              all_goals rfl
                            | inr y_1948 =>
                              try dsimp only [cond_false, cond_true]
                              all_goals
                                cases y_1948 with
                                | inl y_1949 =>
                                  try dsimp only [cond_false, cond_true]
                                  all_goals
                                    cases hq_18 : (Nat.beq y_1932 y_1945) with
                                    | false =>
                                      try dsimp only [cond_false, cond_true]
                                      all_goals rfl
                                    | true =>
                                      try dsimp only [cond_false, cond_true]
                                      all_goals
                                        cases hq_19 : (Nat.beq y_1942 y_1949) with
                                        | false =>
                                          try dsimp only [cond_false, cond_true]
                                          all_goals
                                            cases hq_20 : (Nat.blt y_1942 zB) with
                                            | false =>
                                              try dsimp only [cond_false, cond_true]
                                              all_goals rfl
                                            | true =>
                                              try dsimp only [cond_false, cond_true]
                                              all_goals rfl
                                        | true =>
                                          try dsimp only [cond_false, cond_true]
                                          all_goals rfl
                                | inr y_1950 =>
                                  try dsimp only [cond_false, cond_true]
                                  all_goals rfl
                | inr y_1951 =>
                  try dsimp only [cond_false, cond_true]
                  all_goals
                    cases a with
                    | inl y_1952 =>
                      try dsimp only [cond_false, cond_true]
                      all_goals rfl
                    | inr y_1953 =>
                      try dsimp only [cond_false, cond_true]
                      all_goals
                        cases y_1953 with
                        | mk y_1954 y_1955 =>
                          try dsimp only [cond_false, cond_true]
                          all_goals
                            cases y_1955 with
                            | inl y_1956 =>
                              try dsimp only [cond_false, cond_true]
                              all_goals rfl
                            | inr y_1957 =>
                              try dsimp only [cond_false, cond_true]
                              all_goals
                                cases y_1957 with
                                | inl y_1958 =>
                                  try dsimp only [cond_false, cond_true]
                                  all_goals rfl
                                | inr y_1959 =>
                                  try dsimp only [cond_false, cond_true]
                                  all_goals
                                    cases hq_25 : (Nat.beq y_1932 y_1954) with
                                    | false =>
                                      try dsimp only [cond_false, cond_true]
                                      all_goals rfl
                                    | true =>
                                      try dsimp only [cond_false, cond_true]
                                      all_goals rfl
noncomputable def chkH_a0 :=
  fun (ih : AH → Bool) (q_1963 : List AC) (tab : Tb) (fs : List Ln) (θ : Th) (h_0 : AC) (a_1962 : AC) => ((Bool.rec (motive := fun _ => Bool) false (ih q_1963) (chkC tab fs θ h_0 a_1962)) : Bool)
noncomputable def chkH (tab : Tb) (fs : List Ln) (θ : Th) : AH → AH → Bool :=
  fun e_0 e_1 => List.rec (motive := fun _ => AH → Bool) (fun e_1 => (List.rec (motive := fun _ => Bool) true (fun x_1960 x_1961 _ => false) e_1)) (fun h_0 t_0 ih e_1 => (List.rec (motive := fun _ => Bool) false (fun a_1962 q_1963 _ => (chkH_a0 ih q_1963 tab fs θ h_0 a_1962)) e_1)) e_0 e_1
theorem chkH_def (tab : Tb) (fs : List Ln) (θ : Th) (e_0 : AH) (e_1 : AH) : chkH tab fs θ e_0 e_1 = (match e_0, e_1 with
  | [], [] => true
  | p :: r, a :: q => bif chkC tab fs θ p a then chkH tab fs θ r q else false
  | _, _ => false) := by
  cases e_0 with
  | nil =>
    show (List.rec (motive := fun _ => Bool) true (fun x_1964 x_1965 _ => false) e_1) = _
    try simp only [iAddQ_eq, iMulQ_eq, iNegQ_eq, lenQ_eq, nthQ_eq, setQ_eq, appQ_eq, mapQ_eq, allQ_eq, anyQ_eq, dropQ_eq, takeQ_eq, revQ_eq, getDQ_eq, optLQ_eq, brecC]
    all_goals
      cases e_1 with
      | nil =>
        try dsimp only [cond_false, cond_true]
        all_goals rfl
      | cons y_1966 y_1967 =>
        try dsimp only [cond_false, cond_true]
        all_goals rfl
  | cons h_0 t_0 =>
    show (List.rec (motive := fun _ => Bool) false (fun a_1968 q_1969 _ => (Bool.rec (motive := fun _ => Bool) false (chkH tab fs θ t_0 q_1969) (chkC tab fs θ h_0 a_1968))) e_1) = _
    try simp only [iAddQ_eq, iMulQ_eq, iNegQ_eq, lenQ_eq, nthQ_eq, setQ_eq, appQ_eq, mapQ_eq, allQ_eq, anyQ_eq, dropQ_eq, takeQ_eq, revQ_eq, getDQ_eq, optLQ_eq, brecC]
    all_goals
      cases e_1 with
      | nil =>
        try dsimp only [cond_false, cond_true]
        all_goals rfl
      | cons y_1970 y_1971 =>
        try dsimp only [cond_false, cond_true]
        all_goals
          cases hq_3 : (chkC tab fs θ h_0 y_1970) with
          | false =>
            try dsimp only [cond_false, cond_true]
            all_goals rfl
          | true =>
            try dsimp only [cond_false, cond_true]
            all_goals rfl
noncomputable def uniP1_a0 :=
  fun (tab : Tb) (fs : List Ln) (θ : Un) (p : PD) (h_0 : PD) => ((Bool.rec (motive := fun _ => Bool) false (okNums tab fs θ p.2.2 h_0.2.2) (eqN p.2.1 h_0.2.1)) : Bool)
noncomputable def uniP1_a1 :=
  fun (ih : Un) (θ : Un) (p : PD) (h_0 : PD) (tab : Tb) (fs : List Ln) => ((Bool.rec (motive := fun _ => Un) (ih) (uniN θ p.2.2 h_0.2.2) (Bool.rec (motive := fun _ => Bool) false (uniP1_a0 tab fs θ p h_0) (Nat.beq p.1 h_0.1))) : Un)
noncomputable def uniP1 (tab : Tb) (fs : List Ln) (θ : Un) (p : PD) : List PD → Un :=
  fun e_0 => List.rec (motive := fun _ => Un) θ (fun h_0 t_0 ih => (uniP1_a1 ih θ p h_0 tab fs)) e_0 
theorem uniP1_def (tab : Tb) (fs : List Ln) (θ : Un) (p : PD) (e_0 : List PD) : uniP1 tab fs θ p e_0 = (match e_0 with
  | [] => θ
  | q :: r => bif (bif Nat.beq p.1 q.1 then (bif eqN p.2.1 q.2.1 then okNums tab fs θ p.2.2 q.2.2 else false) else false) then uniN θ p.2.2 q.2.2 else uniP1 tab fs θ p r) := by
  cases e_0 with
  | nil =>
    show θ = _
    try simp only [iAddQ_eq, iMulQ_eq, iNegQ_eq, lenQ_eq, nthQ_eq, setQ_eq, appQ_eq, mapQ_eq, allQ_eq, anyQ_eq, dropQ_eq, takeQ_eq, revQ_eq, getDQ_eq, optLQ_eq, brecC]
    all_goals rfl
  | cons h_0 t_0 =>
    show (Bool.rec (motive := fun _ => Un) (uniP1 tab fs θ p t_0) (uniN θ p.2.2 h_0.2.2) (Bool.rec (motive := fun _ => Bool) false (Bool.rec (motive := fun _ => Bool) false (okNums tab fs θ p.2.2 h_0.2.2) (eqN p.2.1 h_0.2.1)) (Nat.beq p.1 h_0.1))) = _
    try simp only [iAddQ_eq, iMulQ_eq, iNegQ_eq, lenQ_eq, nthQ_eq, setQ_eq, appQ_eq, mapQ_eq, allQ_eq, anyQ_eq, dropQ_eq, takeQ_eq, revQ_eq, getDQ_eq, optLQ_eq, brecC]
    all_goals
      cases hq_1 : ((bif (Nat.beq p.1 h_0.1) then ((bif (eqN p.2.1 h_0.2.1) then (okNums tab fs θ p.2.2 h_0.2.2) else false)) else false)) with
      | false =>
        try dsimp only [cond_false, cond_true]
        all_goals rfl
      | true =>
        try dsimp only [cond_false, cond_true]
        all_goals rfl
noncomputable def uniP (tab : Tb) (fs : List Ln) (a : List PD) : Un → List PD → Un :=
  fun θ e_0 => List.rec (motive := fun _ => Un → Un) (fun θ => θ) (fun h_0 t_0 ih θ => (Prod.rec (motive := fun _ => Un) (fun k_1972 x_1973 => (Prod.rec (motive := fun _ => Un) (fun l_1974 x_1975 => (List.rec (motive := fun _ => Un) (ih θ) (fun x_1976 x_1977 _ => (ih (uniP1 tab fs θ h_0 a))) x_1975)) x_1973)) h_0)) e_0 θ
theorem uniP_def (tab : Tb) (fs : List Ln) (a : List PD) (θ : Un) (e_0 : List PD) : uniP tab fs a θ e_0 = (match e_0 with
  | [] => θ
  | (k, l, []) :: r => uniP tab fs a θ r
  | p :: r => uniP tab fs a (uniP1 tab fs θ p a) r) := by
  cases e_0 with
  | nil =>
    show θ = _
    try simp only [iAddQ_eq, iMulQ_eq, iNegQ_eq, lenQ_eq, nthQ_eq, setQ_eq, appQ_eq, mapQ_eq, allQ_eq, anyQ_eq, dropQ_eq, takeQ_eq, revQ_eq, getDQ_eq, optLQ_eq, brecC]
    all_goals rfl
  | cons h_0 t_0 =>
    show (Prod.rec (motive := fun _ => Un) (fun k_1978 x_1979 => (Prod.rec (motive := fun _ => Un) (fun l_1980 x_1981 => (List.rec (motive := fun _ => Un) (uniP tab fs a θ t_0) (fun x_1982 x_1983 _ => (uniP tab fs a (uniP1 tab fs θ h_0 a) t_0)) x_1981)) x_1979)) h_0) = _
    try simp only [iAddQ_eq, iMulQ_eq, iNegQ_eq, lenQ_eq, nthQ_eq, setQ_eq, appQ_eq, mapQ_eq, allQ_eq, anyQ_eq, dropQ_eq, takeQ_eq, revQ_eq, getDQ_eq, optLQ_eq, brecC]
    all_goals
      cases h_0 with
      | mk y_1984 y_1985 =>
        try dsimp only [cond_false, cond_true]
        all_goals
          cases y_1985 with
          | mk y_1986 y_1987 =>
            try dsimp only [cond_false, cond_true]
            all_goals
              cases y_1987 with
              | nil =>
                try dsimp only [cond_false, cond_true]
                all_goals rfl
              | cons y_1988 y_1989 =>
                try dsimp only [cond_false, cond_true]
                all_goals rfl
noncomputable def chkN_a0 :=
  fun (ih : List Ln → Bool) (q_1993 : List Ln) (tab : Tb) (fs : List Ln) (θ : Th) (h_0 : Ln) (a_1992 : Ln) => ((Bool.rec (motive := fun _ => Bool) false (ih q_1993) (eqL tab fs (sbL θ h_0) a_1992)) : Bool)
noncomputable def chkN (tab : Tb) (fs : List Ln) (θ : Th) : List Ln → List Ln → Bool :=
  fun e_0 e_1 => List.rec (motive := fun _ => List Ln → Bool) (fun e_1 => (List.rec (motive := fun _ => Bool) true (fun x_1990 x_1991 _ => false) e_1)) (fun h_0 t_0 ih e_1 => (List.rec (motive := fun _ => Bool) false (fun a_1992 q_1993 _ => (chkN_a0 ih q_1993 tab fs θ h_0 a_1992)) e_1)) e_0 e_1
theorem chkN_def (tab : Tb) (fs : List Ln) (θ : Th) (e_0 : List Ln) (e_1 : List Ln) : chkN tab fs θ e_0 e_1 = (match e_0, e_1 with
  | [], [] => true
  | p :: r, a :: q => bif eqL tab fs (sbL θ p) a then chkN tab fs θ r q else false
  | _, _ => false) := by
  cases e_0 with
  | nil =>
    show (List.rec (motive := fun _ => Bool) true (fun x_1994 x_1995 _ => false) e_1) = _
    try simp only [iAddQ_eq, iMulQ_eq, iNegQ_eq, lenQ_eq, nthQ_eq, setQ_eq, appQ_eq, mapQ_eq, allQ_eq, anyQ_eq, dropQ_eq, takeQ_eq, revQ_eq, getDQ_eq, optLQ_eq, brecC]
    all_goals
      cases e_1 with
      | nil =>
        try dsimp only [cond_false, cond_true]
        all_goals rfl
      | cons y_1996 y_1997 =>
        try dsimp only [cond_false, cond_true]
        all_goals rfl
  | cons h_0 t_0 =>
    show (List.rec (motive := fun _ => Bool) false (fun a_1998 q_1999 _ => (Bool.rec (motive := fun _ => Bool) false (chkN tab fs θ t_0 q_1999) (eqL tab fs (sbL θ h_0) a_1998))) e_1) = _
    try simp only [iAddQ_eq, iMulQ_eq, iNegQ_eq, lenQ_eq, nthQ_eq, setQ_eq, appQ_eq, mapQ_eq, allQ_eq, anyQ_eq, dropQ_eq, takeQ_eq, revQ_eq, getDQ_eq, optLQ_eq, brecC]
    all_goals
      cases e_1 with
      | nil =>
        try dsimp only [cond_false, cond_true]
        all_goals rfl
      | cons y_2000 y_2001 =>
        try dsimp only [cond_false, cond_true]
        all_goals
          cases hq_3 : (eqL tab fs ((sbL θ h_0)) y_2000) with
          | false =>
            try dsimp only [cond_false, cond_true]
            all_goals rfl
          | true =>
            try dsimp only [cond_false, cond_true]
            all_goals rfl
noncomputable def hasP_a0 :=
  fun (tab : Tb) (fs : List Ln) (θ : Th) (p : PD) (h_0 : PD) => ((Bool.rec (motive := fun _ => Bool) false (chkN tab fs θ p.2.2 h_0.2.2) (eqN p.2.1 h_0.2.1)) : Bool)
noncomputable def hasP_a1 :=
  fun (ih : Bool) (tab : Tb) (fs : List Ln) (θ : Th) (p : PD) (h_0 : PD) => ((Bool.rec (motive := fun _ => Bool) (ih) true (Bool.rec (motive := fun _ => Bool) false (hasP_a0 tab fs θ p h_0) (Nat.beq p.1 h_0.1))) : Bool)
noncomputable def hasP (tab : Tb) (fs : List Ln) (θ : Th) (p : PD) : List PD → Bool :=
  fun e_0 => List.rec (motive := fun _ => Bool) false (fun h_0 t_0 ih => (hasP_a1 ih tab fs θ p h_0)) e_0 
theorem hasP_def (tab : Tb) (fs : List Ln) (θ : Th) (p : PD) (e_0 : List PD) : hasP tab fs θ p e_0 = (match e_0 with
  | [] => false
  | q :: r => bif (bif Nat.beq p.1 q.1 then (bif eqN p.2.1 q.2.1 then chkN tab fs θ p.2.2 q.2.2 else false) else false) then true else hasP tab fs θ p r) := by
  cases e_0 with
  | nil =>
    show false = _
    try simp only [iAddQ_eq, iMulQ_eq, iNegQ_eq, lenQ_eq, nthQ_eq, setQ_eq, appQ_eq, mapQ_eq, allQ_eq, anyQ_eq, dropQ_eq, takeQ_eq, revQ_eq, getDQ_eq, optLQ_eq, brecC]
    all_goals rfl
  | cons h_0 t_0 =>
    show (Bool.rec (motive := fun _ => Bool) (hasP tab fs θ p t_0) true (Bool.rec (motive := fun _ => Bool) false (Bool.rec (motive := fun _ => Bool) false (chkN tab fs θ p.2.2 h_0.2.2) (eqN p.2.1 h_0.2.1)) (Nat.beq p.1 h_0.1))) = _
    try simp only [iAddQ_eq, iMulQ_eq, iNegQ_eq, lenQ_eq, nthQ_eq, setQ_eq, appQ_eq, mapQ_eq, allQ_eq, anyQ_eq, dropQ_eq, takeQ_eq, revQ_eq, getDQ_eq, optLQ_eq, brecC]
    all_goals
      cases hq_1 : ((bif (Nat.beq p.1 h_0.1) then ((bif (eqN p.2.1 h_0.2.1) then (chkN tab fs θ p.2.2 h_0.2.2) else false)) else false)) with
      | false =>
        try dsimp only [cond_false, cond_true]
        all_goals rfl
      | true =>
        try dsimp only [cond_false, cond_true]
        all_goals rfl
noncomputable def chkP_a0 :=
  fun (ih : Bool) (tab : Tb) (fs : List Ln) (θ : Th) (h_0 : PD) (a : List PD) => ((Bool.rec (motive := fun _ => Bool) false (ih) (hasP tab fs θ h_0 a)) : Bool)
noncomputable def chkP (tab : Tb) (fs : List Ln) (θ : Th) (a : List PD) : List PD → Bool :=
  fun e_0 => List.rec (motive := fun _ => Bool) true (fun h_0 t_0 ih => (chkP_a0 ih tab fs θ h_0 a)) e_0 
theorem chkP_def (tab : Tb) (fs : List Ln) (θ : Th) (a : List PD) (e_0 : List PD) : chkP tab fs θ a e_0 = (match e_0 with
  | [] => true
  | p :: r => bif hasP tab fs θ p a then chkP tab fs θ a r else false) := by
  cases e_0 with
  | nil =>
    show true = _
    try simp only [iAddQ_eq, iMulQ_eq, iNegQ_eq, lenQ_eq, nthQ_eq, setQ_eq, appQ_eq, mapQ_eq, allQ_eq, anyQ_eq, dropQ_eq, takeQ_eq, revQ_eq, getDQ_eq, optLQ_eq, brecC]
    all_goals rfl
  | cons h_0 t_0 =>
    show (Bool.rec (motive := fun _ => Bool) false (chkP tab fs θ a t_0) (hasP tab fs θ h_0 a)) = _
    try simp only [iAddQ_eq, iMulQ_eq, iNegQ_eq, lenQ_eq, nthQ_eq, setQ_eq, appQ_eq, mapQ_eq, allQ_eq, anyQ_eq, dropQ_eq, takeQ_eq, revQ_eq, getDQ_eq, optLQ_eq, brecC]
    all_goals
      cases hq_1 : (hasP tab fs θ h_0 a) with
      | false =>
        try dsimp only [cond_false, cond_true]
        all_goals rfl
      | true =>
        try dsimp only [cond_false, cond_true]
        all_goals rfl
noncomputable def chkT_a0 :=
  fun (ih : Bool) (tab : Tb) (fs : List Ln) (lo_2004 : Int) (hi_2005 : Int) (θ : Th) (s_2002 : Nat) => ((Bool.rec (motive := fun _ => Bool) false (ih) (inF tab fs lo_2004 hi_2005 (θ s_2002))) : Bool)
noncomputable def chkT (tab : Tb) (fs : List Ln) (θ : Th) : TbL → Bool :=
  fun e_0 => List.rec (motive := fun _ => Bool) true (fun h_0 t_0 ih => (Prod.rec (motive := fun _ => Bool) (fun s_2002 x_2003 => (Prod.rec (motive := fun _ => Bool) (fun lo_2004 hi_2005 => (chkT_a0 ih tab fs lo_2004 hi_2005 θ s_2002)) x_2003)) h_0)) e_0 
theorem chkT_def (tab : Tb) (fs : List Ln) (θ : Th) (e_0 : TbL) : chkT tab fs θ e_0 = (match e_0 with
  | [] => true
  | (s, lo, hi) :: r => bif inF tab fs lo hi (θ s) then chkT tab fs θ r else false) := by
  cases e_0 with
  | nil =>
    show true = _
    try simp only [iAddQ_eq, iMulQ_eq, iNegQ_eq, lenQ_eq, nthQ_eq, setQ_eq, appQ_eq, mapQ_eq, allQ_eq, anyQ_eq, dropQ_eq, takeQ_eq, revQ_eq, getDQ_eq, optLQ_eq, brecC]
    all_goals rfl
  | cons h_0 t_0 =>
    show (Prod.rec (motive := fun _ => Bool) (fun s_2006 x_2007 => (Prod.rec (motive := fun _ => Bool) (fun lo_2008 hi_2009 => (Bool.rec (motive := fun _ => Bool) false (chkT tab fs θ t_0) (inF tab fs lo_2008 hi_2009 (θ s_2006)))) x_2007)) h_0) = _
    try simp only [iAddQ_eq, iMulQ_eq, iNegQ_eq, lenQ_eq, nthQ_eq, setQ_eq, appQ_eq, mapQ_eq, allQ_eq, anyQ_eq, dropQ_eq, takeQ_eq, revQ_eq, getDQ_eq, optLQ_eq, brecC]
    all_goals
      cases h_0 with
      | mk y_2010 y_2011 =>
        try dsimp only [cond_false, cond_true]
        all_goals
          cases y_2011 with
          | mk y_2012 y_2013 =>
            try dsimp only [cond_false, cond_true]
            all_goals
              cases hq_3 : (inF tab fs y_2012 y_2013 ((θ y_2010))) with
              | false =>
                try dsimp only [cond_false, cond_true]
                all_goals rfl
              | true =>
                try dsimp only [cond_false, cond_true]
                all_goals rfl
noncomputable def chkF_a0 :=
  fun (ih : Bool) (tab : Tb) (fs : List Ln) (θ : Th) (h_0 : Ln) => ((Bool.rec (motive := fun _ => Bool) false (ih) (le0 tab fs (sbL θ h_0))) : Bool)
noncomputable def chkF (tab : Tb) (fs : List Ln) (θ : Th) : List Ln → Bool :=
  fun e_0 => List.rec (motive := fun _ => Bool) true (fun h_0 t_0 ih => (chkF_a0 ih tab fs θ h_0)) e_0 
theorem chkF_def (tab : Tb) (fs : List Ln) (θ : Th) (e_0 : List Ln) : chkF tab fs θ e_0 = (match e_0 with
  | [] => true
  | f :: r => bif le0 tab fs (sbL θ f) then chkF tab fs θ r else false) := by
  cases e_0 with
  | nil =>
    show true = _
    try simp only [iAddQ_eq, iMulQ_eq, iNegQ_eq, lenQ_eq, nthQ_eq, setQ_eq, appQ_eq, mapQ_eq, allQ_eq, anyQ_eq, dropQ_eq, takeQ_eq, revQ_eq, getDQ_eq, optLQ_eq, brecC]
    all_goals rfl
  | cons h_0 t_0 =>
    show (Bool.rec (motive := fun _ => Bool) false (chkF tab fs θ t_0) (le0 tab fs (sbL θ h_0))) = _
    try simp only [iAddQ_eq, iMulQ_eq, iNegQ_eq, lenQ_eq, nthQ_eq, setQ_eq, appQ_eq, mapQ_eq, allQ_eq, anyQ_eq, dropQ_eq, takeQ_eq, revQ_eq, getDQ_eq, optLQ_eq, brecC]
    all_goals
      cases hq_1 : (le0 tab fs ((sbL θ h_0))) with
      | false =>
        try dsimp only [cond_false, cond_true]
        all_goals rfl
      | true =>
        try dsimp only [cond_false, cond_true]
        all_goals rfl
noncomputable def scV (n : Nat) (a : AV) : Bool := match a with
  | .inl (_, e) => scL n e
  | .inr (.inr (p, q)) => bif scL n p then scL n q else false
  | _ => true
noncomputable def scS (n : Nat) (s : Sg) : Bool := match s with
  | .inl e => scL n e
  | _ => true
noncomputable def scC (n : Nat) (c : AC) : Bool := match c with
  | .inl (_, as) => as.all (scV n)
  | .inr (_, .inl s) => s.all (scS n)
  | _ => true
-- the same text
noncomputable def eqLn (a b : Ln) : Bool :=
  (Bool.rec (motive := fun _ => Bool) false (eqT a.2 b.2) (eqI a.1 b.1))
theorem eqLn_def (a b : Ln) : eqLn a b = bif eqI a.1 b.1 then eqT a.2 b.2 else false := by
  show (Bool.rec (motive := fun _ => Bool) false (eqT a.2 b.2) (eqI a.1 b.1)) = _
  try simp only [iAddQ_eq, iMulQ_eq, iNegQ_eq, lenQ_eq, nthQ_eq, setQ_eq, appQ_eq, mapQ_eq, allQ_eq, anyQ_eq, dropQ_eq, takeQ_eq, revQ_eq, getDQ_eq, optLQ_eq, brecC]
  all_goals
    cases hq_1 : (eqI a.1 b.1) with
    | false =>
      try dsimp only [cond_false, cond_true]
      all_goals rfl
    | true =>
      try dsimp only [cond_false, cond_true]
      all_goals rfl
noncomputable def eqAV_a0 :=
  fun (e_2038 : Ln) (e_2042 : Ln) (b_2037 : Bool) (b_2041 : Bool) => ((Bool.rec (motive := fun _ => Bool) false (eqLn e_2038 e_2042) (lnB b_2037 b_2041)) : Bool)
noncomputable def eqAV (p a : AV) : Bool :=
  (Sum.rec (motive := fun _ => Bool) (fun x_2035 => (Prod.rec (motive := fun _ => Bool) (fun b_2037 e_2038 => (Sum.rec (motive := fun _ => Bool) (fun x_2039 => (Prod.rec (motive := fun _ => Bool) (fun b_2041 e_2042 => (eqAV_a0 e_2038 e_2042 b_2037 b_2041)) x_2039)) (fun x_2040 => false) a)) x_2035)) (fun x_2036 => (Sum.rec (motive := fun _ => Bool) (fun x_2043 => (Option.rec (motive := fun _ => Bool) (Sum.rec (motive := fun _ => Bool) (fun x_2046 => false) (fun x_2047 => (Sum.rec (motive := fun _ => Bool) (fun x_2048 => (Option.rec (motive := fun _ => Bool) true (fun x_2050 => false) x_2048)) (fun x_2049 => false) x_2047)) a) (fun i_2045 => (Sum.rec (motive := fun _ => Bool) (fun x_2051 => false) (fun x_2052 => (Sum.rec (motive := fun _ => Bool) (fun x_2053 => (Option.rec (motive := fun _ => Bool) false (fun j_2055 => (Nat.beq i_2045 j_2055)) x_2053)) (fun x_2054 => false) x_2052)) a)) x_2043)) (fun x_2044 => false) x_2036)) p)
theorem eqAV_def (p a : AV) : eqAV p a = (match p, a with
  | .inl (b, e), .inl (b', e') => bif lnB b b' then eqLn e e' else false
  | .inr (.inl (some i)), .inr (.inl (some j)) => Nat.beq i j
  | .inr (.inl none), .inr (.inl none) => true
  | _, _ => false) := by
  show (Sum.rec (motive := fun _ => Bool) (fun x_2014 => (Prod.rec (motive := fun _ => Bool) (fun b_2016 e_2017 => (Sum.rec (motive := fun _ => Bool) (fun x_2018 => (Prod.rec (motive := fun _ => Bool) (fun b_2020 e_2021 => (Bool.rec (motive := fun _ => Bool) false (eqLn e_2017 e_2021) (lnB b_2016 b_2020))) x_2018)) (fun x_2019 => false) a)) x_2014)) (fun x_2015 => (Sum.rec (motive := fun _ => Bool) (fun x_2022 => (Option.rec (motive := fun _ => Bool) (Sum.rec (motive := fun _ => Bool) (fun x_2025 => false) (fun x_2026 => (Sum.rec (motive := fun _ => Bool) (fun x_2027 => (Option.rec (motive := fun _ => Bool) true (fun x_2029 => false) x_2027)) (fun x_2028 => false) x_2026)) a) (fun i_2024 => (Sum.rec (motive := fun _ => Bool) (fun x_2030 => false) (fun x_2031 => (Sum.rec (motive := fun _ => Bool) (fun x_2032 => (Option.rec (motive := fun _ => Bool) false (fun j_2034 => (Nat.beq i_2024 j_2034)) x_2032)) (fun x_2033 => false) x_2031)) a)) x_2022)) (fun x_2023 => false) x_2015)) p) = _
  try simp only [iAddQ_eq, iMulQ_eq, iNegQ_eq, lenQ_eq, nthQ_eq, setQ_eq, appQ_eq, mapQ_eq, allQ_eq, anyQ_eq, dropQ_eq, takeQ_eq, revQ_eq, getDQ_eq, optLQ_eq, brecC]
  all_goals
    cases p with
    | inl y_2056 =>
      try dsimp only [cond_false, cond_true]
      all_goals
        cases y_2056 with
        | mk y_2057 y_2058 =>
          try dsimp only [cond_false, cond_true]
          all_goals
            cases a with
            | inl y_2059 =>
              try dsimp only [cond_false, cond_true]
              all_goals
                cases y_2059 with
                | mk y_2060 y_2061 =>
                  try dsimp only [cond_false, cond_true]
                  all_goals
                    cases hq_5 : (lnB y_2057 y_2060) with
                    | false =>
                      try dsimp only [cond_false, cond_true]
                      all_goals rfl
                    | true =>
                      try dsimp only [cond_false, cond_true]
                      all_goals rfl
            | inr y_2062 =>
              try dsimp only [cond_false, cond_true]
              all_goals rfl
    | inr y_2063 =>
      try dsimp only [cond_false, cond_true]
      all_goals
        cases y_2063 with
        | inl y_2064 =>
          try dsimp only [cond_false, cond_true]
          all_goals
            cases y_2064 with
            | none =>
              try dsimp only [cond_false, cond_true]
              all_goals
                cases a with
                | inl y_2065 =>
                  try dsimp only [cond_false, cond_true]
                  all_goals rfl
                | inr y_2066 =>
                  try dsimp only [cond_false, cond_true]
                  all_goals
                    cases y_2066 with
                    | inl y_2067 =>
                      try dsimp only [cond_false, cond_true]
                      all_goals
                        cases y_2067 with
                        | none =>
                          try dsimp only [cond_false, cond_true]
                          all_goals rfl
                        | some y_2068 =>
                          try dsimp only [cond_false, cond_true]
                          all_goals rfl
                    | inr y_2069 =>
                      try dsimp only [cond_false, cond_true]
                      all_goals rfl
            | some y_2070 =>
              try dsimp only [cond_false, cond_true]
              all_goals
                cases a with
                | inl y_2071 =>
                  try dsimp only [cond_false, cond_true]
                  all_goals rfl
                | inr y_2072 =>
                  try dsimp only [cond_false, cond_true]
                  all_goals
                    cases y_2072 with
                    | inl y_2073 =>
                      try dsimp only [cond_false, cond_true]
                      all_goals
                        cases y_2073 with
                        | none =>
                          try dsimp only [cond_false, cond_true]
                          all_goals rfl
                        | some y_2074 =>
                          try dsimp only [cond_false, cond_true]
                          all_goals rfl
                    | inr y_2075 =>
                      try dsimp only [cond_false, cond_true]
                      all_goals rfl
        | inr y_2076 =>
          try dsimp only [cond_false, cond_true]
          all_goals rfl
noncomputable def eqAVs_a0 :=
  fun (ih : List AV → Bool) (q_2080 : List AV) (h_0 : AV) (a_2079 : AV) => ((Bool.rec (motive := fun _ => Bool) false (ih q_2080) (eqAV h_0 a_2079)) : Bool)
noncomputable def eqAVs  : List AV → List AV → Bool :=
  fun e_0 e_1 => List.rec (motive := fun _ => List AV → Bool) (fun e_1 => (List.rec (motive := fun _ => Bool) true (fun x_2077 x_2078 _ => false) e_1)) (fun h_0 t_0 ih e_1 => (List.rec (motive := fun _ => Bool) false (fun a_2079 q_2080 _ => (eqAVs_a0 ih q_2080 h_0 a_2079)) e_1)) e_0 e_1
theorem eqAVs_def  (e_0 : List AV) (e_1 : List AV) : eqAVs  e_0 e_1 = (match e_0, e_1 with
  | [], [] => true
  | p :: r, a :: q => bif eqAV p a then eqAVs r q else false
  | _, _ => false) := by
  cases e_0 with
  | nil =>
    show (List.rec (motive := fun _ => Bool) true (fun x_2081 x_2082 _ => false) e_1) = _
    try simp only [iAddQ_eq, iMulQ_eq, iNegQ_eq, lenQ_eq, nthQ_eq, setQ_eq, appQ_eq, mapQ_eq, allQ_eq, anyQ_eq, dropQ_eq, takeQ_eq, revQ_eq, getDQ_eq, optLQ_eq, brecC]
    all_goals
      cases e_1 with
      | nil =>
        try dsimp only [cond_false, cond_true]
        all_goals rfl
      | cons y_2083 y_2084 =>
        try dsimp only [cond_false, cond_true]
        all_goals rfl
  | cons h_0 t_0 =>
    show (List.rec (motive := fun _ => Bool) false (fun a_2085 q_2086 _ => (Bool.rec (motive := fun _ => Bool) false (eqAVs t_0 q_2086) (eqAV h_0 a_2085))) e_1) = _
    try simp only [iAddQ_eq, iMulQ_eq, iNegQ_eq, lenQ_eq, nthQ_eq, setQ_eq, appQ_eq, mapQ_eq, allQ_eq, anyQ_eq, dropQ_eq, takeQ_eq, revQ_eq, getDQ_eq, optLQ_eq, brecC]
    all_goals
      cases e_1 with
      | nil =>
        try dsimp only [cond_false, cond_true]
        all_goals rfl
      | cons y_2087 y_2088 =>
        try dsimp only [cond_false, cond_true]
        all_goals
          cases hq_3 : (eqAV h_0 y_2087) with
          | false =>
            try dsimp only [cond_false, cond_true]
            all_goals rfl
          | true =>
            try dsimp only [cond_false, cond_true]
            all_goals rfl
noncomputable def eqSg_a0 :=
  fun (hi_2110 : Int) (hi_2116 : Int) (lo_2109 : Int) (lo_2115 : Int) => ((Bool.rec (motive := fun _ => Bool) false (eqI hi_2110 hi_2116) (eqI lo_2109 lo_2115)) : Bool)
noncomputable def eqSg_a1 :=
  fun (hi_2110 : Int) (hi_2116 : Int) (lo_2109 : Int) (lo_2115 : Int) (m_2107 : Nat) (m_2113 : Nat) => ((Bool.rec (motive := fun _ => Bool) false (eqSg_a0 hi_2110 hi_2116 lo_2109 lo_2115) (Nat.beq m_2107 m_2113)) : Bool)
noncomputable def eqSg (p a : Sg) : Bool :=
  (Sum.rec (motive := fun _ => Bool) (fun e_2103 => (Sum.rec (motive := fun _ => Bool) (fun e_2105 => (eqLn e_2103 e_2105)) (fun x_2106 => false) a)) (fun x_2104 => (Prod.rec (motive := fun _ => Bool) (fun m_2107 x_2108 => (Prod.rec (motive := fun _ => Bool) (fun lo_2109 hi_2110 => (Sum.rec (motive := fun _ => Bool) (fun x_2111 => false) (fun x_2112 => (Prod.rec (motive := fun _ => Bool) (fun m_2113 x_2114 => (Prod.rec (motive := fun _ => Bool) (fun lo_2115 hi_2116 => (eqSg_a1 hi_2110 hi_2116 lo_2109 lo_2115 m_2107 m_2113)) x_2114)) x_2112)) a)) x_2108)) x_2104)) p)
theorem eqSg_def (p a : Sg) : eqSg p a = (match p, a with
  | .inl e, .inl e' => eqLn e e'
  | .inr (m, lo, hi), .inr (m', lo', hi') => bif Nat.beq m m' then (bif eqI lo lo' then eqI hi hi' else false) else false
  | _, _ => false) := by
  show (Sum.rec (motive := fun _ => Bool) (fun e_2089 => (Sum.rec (motive := fun _ => Bool) (fun e_2091 => (eqLn e_2089 e_2091)) (fun x_2092 => false) a)) (fun x_2090 => (Prod.rec (motive := fun _ => Bool) (fun m_2093 x_2094 => (Prod.rec (motive := fun _ => Bool) (fun lo_2095 hi_2096 => (Sum.rec (motive := fun _ => Bool) (fun x_2097 => false) (fun x_2098 => (Prod.rec (motive := fun _ => Bool) (fun m_2099 x_2100 => (Prod.rec (motive := fun _ => Bool) (fun lo_2101 hi_2102 => (Bool.rec (motive := fun _ => Bool) false (Bool.rec (motive := fun _ => Bool) false (eqI hi_2096 hi_2102) (eqI lo_2095 lo_2101)) (Nat.beq m_2093 m_2099))) x_2100)) x_2098)) a)) x_2094)) x_2090)) p) = _
  try simp only [iAddQ_eq, iMulQ_eq, iNegQ_eq, lenQ_eq, nthQ_eq, setQ_eq, appQ_eq, mapQ_eq, allQ_eq, anyQ_eq, dropQ_eq, takeQ_eq, revQ_eq, getDQ_eq, optLQ_eq, brecC]
  all_goals
    cases p with
    | inl y_2117 =>
      try dsimp only [cond_false, cond_true]
      all_goals
        cases a with
        | inl y_2118 =>
          try dsimp only [cond_false, cond_true]
          all_goals rfl
        | inr y_2119 =>
          try dsimp only [cond_false, cond_true]
          all_goals rfl
    | inr y_2120 =>
      try dsimp only [cond_false, cond_true]
      all_goals
        cases y_2120 with
        | mk y_2121 y_2122 =>
          try dsimp only [cond_false, cond_true]
          all_goals
            cases y_2122 with
            | mk y_2123 y_2124 =>
              try dsimp only [cond_false, cond_true]
              all_goals
                cases a with
                | inl y_2125 =>
                  try dsimp only [cond_false, cond_true]
                  all_goals rfl
                | inr y_2126 =>
                  try dsimp only [cond_false, cond_true]
                  all_goals
                    cases y_2126 with
                    | mk y_2127 y_2128 =>
                      try dsimp only [cond_false, cond_true]
                      all_goals
                        cases y_2128 with
                        | mk y_2129 y_2130 =>
                          try dsimp only [cond_false, cond_true]
                          all_goals
                            cases hq_8 : (Nat.beq y_2121 y_2127) with
                            | false =>
                              try dsimp only [cond_false, cond_true]
                              all_goals rfl
                            | true =>
                              try dsimp only [cond_false, cond_true]
                              all_goals
                                cases hq_9 : (eqI y_2123 y_2129) with
                                | false =>
                                  try dsimp only [cond_false, cond_true]
                                  all_goals rfl
                                | true =>
                                  try dsimp only [cond_false, cond_true]
                                  all_goals rfl
noncomputable def eqSgs_a0 :=
  fun (ih : List Sg → Bool) (q_2134 : List Sg) (h_0 : Sg) (a_2133 : Sg) => ((Bool.rec (motive := fun _ => Bool) false (ih q_2134) (eqSg h_0 a_2133)) : Bool)
noncomputable def eqSgs  : List Sg → List Sg → Bool :=
  fun e_0 e_1 => List.rec (motive := fun _ => List Sg → Bool) (fun e_1 => (List.rec (motive := fun _ => Bool) true (fun x_2131 x_2132 _ => false) e_1)) (fun h_0 t_0 ih e_1 => (List.rec (motive := fun _ => Bool) false (fun a_2133 q_2134 _ => (eqSgs_a0 ih q_2134 h_0 a_2133)) e_1)) e_0 e_1
theorem eqSgs_def  (e_0 : List Sg) (e_1 : List Sg) : eqSgs  e_0 e_1 = (match e_0, e_1 with
  | [], [] => true
  | p :: r, a :: q => bif eqSg p a then eqSgs r q else false
  | _, _ => false) := by
  cases e_0 with
  | nil =>
    show (List.rec (motive := fun _ => Bool) true (fun x_2135 x_2136 _ => false) e_1) = _
    try simp only [iAddQ_eq, iMulQ_eq, iNegQ_eq, lenQ_eq, nthQ_eq, setQ_eq, appQ_eq, mapQ_eq, allQ_eq, anyQ_eq, dropQ_eq, takeQ_eq, revQ_eq, getDQ_eq, optLQ_eq, brecC]
    all_goals
      cases e_1 with
      | nil =>
        try dsimp only [cond_false, cond_true]
        all_goals rfl
      | cons y_2137 y_2138 =>
        try dsimp only [cond_false, cond_true]
        all_goals rfl
  | cons h_0 t_0 =>
    show (List.rec (motive := fun _ => Bool) false (fun a_2139 q_2140 _ => (Bool.rec (motive := fun _ => Bool) false (eqSgs t_0 q_2140) (eqSg h_0 a_2139))) e_1) = _
    try simp only [iAddQ_eq, iMulQ_eq, iNegQ_eq, lenQ_eq, nthQ_eq, setQ_eq, appQ_eq, mapQ_eq, allQ_eq, anyQ_eq, dropQ_eq, takeQ_eq, revQ_eq, getDQ_eq, optLQ_eq, brecC]
    all_goals
      cases e_1 with
      | nil =>
        try dsimp only [cond_false, cond_true]
        all_goals rfl
      | cons y_2141 y_2142 =>
        try dsimp only [cond_false, cond_true]
        all_goals
          cases hq_3 : (eqSg h_0 y_2141) with
          | false =>
            try dsimp only [cond_false, cond_true]
            all_goals rfl
          | true =>
            try dsimp only [cond_false, cond_true]
            all_goals rfl
noncomputable def eqAC_a0 :=
  fun (l_2182 : List AV) (l_2186 : List AV) (c_2181 : Nat) (c_2185 : Nat) => ((Bool.rec (motive := fun _ => Bool) false (eqAVs l_2182 l_2186) (Nat.beq c_2181 c_2185)) : Bool)
noncomputable def eqAC_a1 :=
  fun (s_2189 : List Sg) (s_2195 : List Sg) (k_2187 : Nat) (k_2193 : Nat) => ((Bool.rec (motive := fun _ => Bool) false (eqSgs s_2189 s_2195) (Nat.beq k_2187 k_2193)) : Bool)
noncomputable def eqAC_a2 :=
  fun (m_2197 : Nat) (m_2205 : Nat) (k_2187 : Nat) (k_2201 : Nat) => ((Bool.rec (motive := fun _ => Bool) false (Nat.beq m_2197 m_2205) (Nat.beq k_2187 k_2201)) : Bool)
noncomputable def eqAC_a3 :=
  fun (l_2198 : List (Option Nat)) (l_2214 : List (Option Nat)) (k_2187 : Nat) (k_2209 : Nat) => ((Bool.rec (motive := fun _ => Bool) false (eqO l_2198 l_2214) (Nat.beq k_2187 k_2209)) : Bool)
noncomputable def eqAC (p a : AC) : Bool :=
  (Sum.rec (motive := fun _ => Bool) (fun x_2179 => (Prod.rec (motive := fun _ => Bool) (fun c_2181 l_2182 => (Sum.rec (motive := fun _ => Bool) (fun x_2183 => (Prod.rec (motive := fun _ => Bool) (fun c_2185 l_2186 => (eqAC_a0 l_2182 l_2186 c_2181 c_2185)) x_2183)) (fun x_2184 => false) a)) x_2179)) (fun x_2180 => (Prod.rec (motive := fun _ => Bool) (fun k_2187 x_2188 => (Sum.rec (motive := fun _ => Bool) (fun s_2189 => (Sum.rec (motive := fun _ => Bool) (fun x_2191 => false) (fun x_2192 => (Prod.rec (motive := fun _ => Bool) (fun k_2193 x_2194 => (Sum.rec (motive := fun _ => Bool) (fun s_2195 => (eqAC_a1 s_2189 s_2195 k_2187 k_2193)) (fun x_2196 => false) x_2194)) x_2192)) a)) (fun x_2190 => (Sum.rec (motive := fun _ => Bool) (fun m_2197 => (Sum.rec (motive := fun _ => Bool) (fun x_2199 => false) (fun x_2200 => (Prod.rec (motive := fun _ => Bool) (fun k_2201 x_2202 => (Sum.rec (motive := fun _ => Bool) (fun x_2203 => false) (fun x_2204 => (Sum.rec (motive := fun _ => Bool) (fun m_2205 => (eqAC_a2 m_2197 m_2205 k_2187 k_2201)) (fun x_2206 => false) x_2204)) x_2202)) x_2200)) a)) (fun l_2198 => (Sum.rec (motive := fun _ => Bool) (fun x_2207 => false) (fun x_2208 => (Prod.rec (motive := fun _ => Bool) (fun k_2209 x_2210 => (Sum.rec (motive := fun _ => Bool) (fun x_2211 => false) (fun x_2212 => (Sum.rec (motive := fun _ => Bool) (fun x_2213 => false) (fun l_2214 => (eqAC_a3 l_2198 l_2214 k_2187 k_2209)) x_2212)) x_2210)) x_2208)) a)) x_2190)) x_2188)) x_2180)) p)
theorem eqAC_def (p a : AC) : eqAC p a = (match p, a with
  | .inl (c, l), .inl (c', l') => bif Nat.beq c c' then eqAVs l l' else false
  | .inr (k, .inl s), .inr (k', .inl s') => bif Nat.beq k k' then eqSgs s s' else false
  | .inr (k, .inr (.inl m)), .inr (k', .inr (.inl m')) => bif Nat.beq k k' then Nat.beq m m' else false
  | .inr (k, .inr (.inr l)), .inr (k', .inr (.inr l')) => bif Nat.beq k k' then eqO l l' else false
  | _, _ => false) := by
  show (Sum.rec (motive := fun _ => Bool) (fun x_2143 => (Prod.rec (motive := fun _ => Bool) (fun c_2145 l_2146 => (Sum.rec (motive := fun _ => Bool) (fun x_2147 => (Prod.rec (motive := fun _ => Bool) (fun c_2149 l_2150 => (Bool.rec (motive := fun _ => Bool) false (eqAVs l_2146 l_2150) (Nat.beq c_2145 c_2149))) x_2147)) (fun x_2148 => false) a)) x_2143)) (fun x_2144 => (Prod.rec (motive := fun _ => Bool) (fun k_2151 x_2152 => (Sum.rec (motive := fun _ => Bool) (fun s_2153 => (Sum.rec (motive := fun _ => Bool) (fun x_2155 => false) (fun x_2156 => (Prod.rec (motive := fun _ => Bool) (fun k_2157 x_2158 => (Sum.rec (motive := fun _ => Bool) (fun s_2159 => (Bool.rec (motive := fun _ => Bool) false (eqSgs s_2153 s_2159) (Nat.beq k_2151 k_2157))) (fun x_2160 => false) x_2158)) x_2156)) a)) (fun x_2154 => (Sum.rec (motive := fun _ => Bool) (fun m_2161 => (Sum.rec (motive := fun _ => Bool) (fun x_2163 => false) (fun x_2164 => (Prod.rec (motive := fun _ => Bool) (fun k_2165 x_2166 => (Sum.rec (motive := fun _ => Bool) (fun x_2167 => false) (fun x_2168 => (Sum.rec (motive := fun _ => Bool) (fun m_2169 => (Bool.rec (motive := fun _ => Bool) false (Nat.beq m_2161 m_2169) (Nat.beq k_2151 k_2165))) (fun x_2170 => false) x_2168)) x_2166)) x_2164)) a)) (fun l_2162 => (Sum.rec (motive := fun _ => Bool) (fun x_2171 => false) (fun x_2172 => (Prod.rec (motive := fun _ => Bool) (fun k_2173 x_2174 => (Sum.rec (motive := fun _ => Bool) (fun x_2175 => false) (fun x_2176 => (Sum.rec (motive := fun _ => Bool) (fun x_2177 => false) (fun l_2178 => (Bool.rec (motive := fun _ => Bool) false (eqO l_2162 l_2178) (Nat.beq k_2151 k_2173))) x_2176)) x_2174)) x_2172)) a)) x_2154)) x_2152)) x_2144)) p) = _
  try simp only [iAddQ_eq, iMulQ_eq, iNegQ_eq, lenQ_eq, nthQ_eq, setQ_eq, appQ_eq, mapQ_eq, allQ_eq, anyQ_eq, dropQ_eq, takeQ_eq, revQ_eq, getDQ_eq, optLQ_eq, brecC]
  all_goals
    cases p with
    | inl y_2215 =>
      try dsimp only [cond_false, cond_true]
      all_goals
        cases y_2215 with
        | mk y_2216 y_2217 =>
          try dsimp only [cond_false, cond_true]
          all_goals
            cases a with
            | inl y_2218 =>
              try dsimp only [cond_false, cond_true]
              all_goals
                cases y_2218 with
                | mk y_2219 y_2220 =>
                  try dsimp only [cond_false, cond_true]
                  all_goals
                    cases hq_5 : (Nat.beq y_2216 y_2219) with
                    | false =>
                      try dsimp only [cond_false, cond_true]
                      all_goals rfl
                    | true =>
                      try dsimp only [cond_false, cond_true]
                      all_goals rfl
            | inr y_2221 =>
              try dsimp only [cond_false, cond_true]
              all_goals rfl
    | inr y_2222 =>
      try dsimp only [cond_false, cond_true]
      all_goals
        cases y_2222 with
        | mk y_2223 y_2224 =>
          try dsimp only [cond_false, cond_true]
          all_goals
            cases y_2224 with
            | inl y_2225 =>
              try dsimp only [cond_false, cond_true]
              all_goals
                cases a with
                | inl y_2226 =>
                  try dsimp only [cond_false, cond_true]
                  all_goals rfl
                | inr y_2227 =>
                  try dsimp only [cond_false, cond_true]
                  all_goals
                    cases y_2227 with
                    | mk y_2228 y_2229 =>
                      try dsimp only [cond_false, cond_true]
                      all_goals
                        cases y_2229 with
                        | inl y_2230 =>
                          try dsimp only [cond_false, cond_true]
                          all_goals
                            cases hq_11 : (Nat.beq y_2223 y_2228) with
                            | false =>
                              try dsimp only [cond_false, cond_true]
                              all_goals rfl
                            | true =>
                              try dsimp only [cond_false, cond_true]
                              all_goals rfl
                        | inr y_2231 =>
                          try dsimp only [cond_false, cond_true]
                          all_goals rfl
            | inr y_2232 =>
              try dsimp only [cond_false, cond_true]
              all_goals
                cases y_2232 with
                | inl y_2233 =>
                  try dsimp only [cond_false, cond_true]
                  all_goals
                    cases a with
                    | inl y_2234 =>
                      try dsimp only [cond_false, cond_true]
                      all_goals rfl
                    | inr y_2235 =>
                      try dsimp only [cond_false, cond_true]
                      all_goals
                        cases y_2235 with
                        | mk y_2236 y_2237 =>
                          try dsimp only [cond_false, cond_true]
                          all_goals
                            cases y_2237 with
                            | inl y_2238 =>
                              try dsimp only [cond_false, cond_true]
                              all_goals rfl
                            | inr y_2239 =>
                              try dsimp only [cond_false, cond_true]
                              all_goals
                                cases y_2239 with
                                | inl y_2240 =>
                                  try dsimp only [cond_false, cond_true]
                                  all_goals
                                    cases hq_17 : (Nat.beq y_2223 y_2236) with
                                    | false =>
                                      try dsimp only [cond_false, cond_true]
                                      all_goals rfl
                                    | true =>
                                      try dsimp only [cond_false, cond_true]
                                      all_goals rfl
                                | inr y_2241 =>
                                  try dsimp only [cond_false, cond_true]
                                  all_goals rfl
                | inr y_2242 =>
                  try dsimp only [cond_false, cond_true]
                  all_goals
                    cases a with
                    | inl y_2243 =>
                      try dsimp only [cond_false, cond_true]
                      all_goals rfl
                    | inr y_2244 =>
                      try dsimp only [cond_false, cond_true]
                      all_goals
                        cases y_2244 with
                        | mk y_2245 y_2246 =>
                          try dsimp only [cond_false, cond_true]
                          all_goals
                            cases y_2246 with
                            | inl y_2247 =>
                              try dsimp only [cond_false, cond_true]
                              all_goals rfl
                            | inr y_2248 =>
                              try dsimp only [cond_false, cond_true]
                              all_goals
                                cases y_2248 with
                                | inl y_2249 =>
                                  try dsimp only [cond_false, cond_true]
                                  all_goals rfl
                                | inr y_2250 =>
                                  try dsimp only [cond_false, cond_true]
                                  all_goals
                                    cases hq_22 : (Nat.beq y_2223 y_2245) with
                                    | false =>
                                      try dsimp only [cond_false, cond_true]
                                      all_goals rfl
                                    | true =>
                                      try dsimp only [cond_false, cond_true]
                                      all_goals rfl
/-- the same cell, of symbols that stay -/
noncomputable def qC_a0 :=
  fun (n : Nat) (p : AC) (a : AC) => ((Bool.rec (motive := fun _ => Bool) false (scC n p) (eqAC p a)) : Bool)
noncomputable def qC (n : Nat) (p a : AC) : Bool :=
  (Bool.rec (motive := fun _ => Bool) false (qC_a0 n p a) (Nat.ble (nat_lit 1) n))
theorem qC_def (n : Nat) (p a : AC) : qC n p a = bif Nat.ble 1 n then (bif eqAC p a then scC n p else false) else false := by
  show (Bool.rec (motive := fun _ => Bool) false (Bool.rec (motive := fun _ => Bool) false (scC n p) (eqAC p a)) (Nat.ble (nat_lit 1) n)) = _
  try simp only [iAddQ_eq, iMulQ_eq, iNegQ_eq, lenQ_eq, nthQ_eq, setQ_eq, appQ_eq, mapQ_eq, allQ_eq, anyQ_eq, dropQ_eq, takeQ_eq, revQ_eq, getDQ_eq, optLQ_eq, brecC]
  all_goals
    cases hq_1 : (Nat.ble 1 n) with
    | false =>
      try dsimp only [cond_false, cond_true]
      all_goals rfl
    | true =>
      try dsimp only [cond_false, cond_true]
      all_goals
        cases hq_2 : (eqAC p a) with
        | false =>
          try dsimp only [cond_false, cond_true]
          all_goals rfl
        | true =>
          try dsimp only [cond_false, cond_true]
          all_goals rfl
noncomputable def uniHR_a0 :=
  fun (ih : Un → AH → Un) (θ : Un) (h_0 : AC) (a_2251 : AC) (n : Nat) (q_2252 : List AC) => ((ih (Bool.rec (motive := fun _ => Un) (uniC θ h_0 a_2251) θ (qC n h_0 a_2251)) q_2252) : Un)
noncomputable def uniHR (n : Nat) : Un → AH → AH → Un :=
  fun θ e_0 e_1 => List.rec (motive := fun _ => Un → AH → Un) (fun θ e_1 => θ) (fun h_0 t_0 ih θ e_1 => (List.rec (motive := fun _ => Un) θ (fun a_2251 q_2252 _ => (uniHR_a0 ih θ h_0 a_2251 n q_2252)) e_1)) e_0 θ e_1
theorem uniHR_def (n : Nat) (θ : Un) (e_0 : AH) (e_1 : AH) : uniHR n θ e_0 e_1 = (match e_0, e_1 with
  | p :: r, a :: q => uniHR n (bif qC n p a then θ else uniC θ p a) r q
  | _, _ => θ) := by
  cases e_0 with
  | nil =>
    show θ = _
    try simp only [iAddQ_eq, iMulQ_eq, iNegQ_eq, lenQ_eq, nthQ_eq, setQ_eq, appQ_eq, mapQ_eq, allQ_eq, anyQ_eq, dropQ_eq, takeQ_eq, revQ_eq, getDQ_eq, optLQ_eq, brecC]
    all_goals rfl
  | cons h_0 t_0 =>
    show (List.rec (motive := fun _ => Un) θ (fun a_2253 q_2254 _ => (uniHR n (Bool.rec (motive := fun _ => Un) (uniC θ h_0 a_2253) θ (qC n h_0 a_2253)) t_0 q_2254)) e_1) = _
    try simp only [iAddQ_eq, iMulQ_eq, iNegQ_eq, lenQ_eq, nthQ_eq, setQ_eq, appQ_eq, mapQ_eq, allQ_eq, anyQ_eq, dropQ_eq, takeQ_eq, revQ_eq, getDQ_eq, optLQ_eq, brecC]
    all_goals
      cases e_1 with
      | nil =>
        try dsimp only [cond_false, cond_true]
        all_goals rfl
      | cons y_2255 y_2256 =>
        try dsimp only [cond_false, cond_true]
        all_goals rfl
noncomputable def chkHR_a0 :=
  fun (ih : AH → Bool) (q_2260 : List AC) (tab : Tb) (fs : List Ln) (θ : Th) (h_0 : AC) (a_2259 : AC) (n : Nat) => ((Bool.rec (motive := fun _ => Bool) false (ih q_2260) (Bool.rec (motive := fun _ => Bool) (chkC tab fs θ h_0 a_2259) true (qC n h_0 a_2259))) : Bool)
noncomputable def chkHR (n : Nat) (tab : Tb) (fs : List Ln) (θ : Th) : AH → AH → Bool :=
  fun e_0 e_1 => List.rec (motive := fun _ => AH → Bool) (fun e_1 => (List.rec (motive := fun _ => Bool) true (fun x_2257 x_2258 _ => false) e_1)) (fun h_0 t_0 ih e_1 => (List.rec (motive := fun _ => Bool) false (fun a_2259 q_2260 _ => (chkHR_a0 ih q_2260 tab fs θ h_0 a_2259 n)) e_1)) e_0 e_1
theorem chkHR_def (n : Nat) (tab : Tb) (fs : List Ln) (θ : Th) (e_0 : AH) (e_1 : AH) : chkHR n tab fs θ e_0 e_1 = (match e_0, e_1 with
  | [], [] => true
  | p :: r, a :: q => bif (bif qC n p a then true else chkC tab fs θ p a) then chkHR n tab fs θ r q else false
  | _, _ => false) := by
  cases e_0 with
  | nil =>
    show (List.rec (motive := fun _ => Bool) true (fun x_2261 x_2262 _ => false) e_1) = _
    try simp only [iAddQ_eq, iMulQ_eq, iNegQ_eq, lenQ_eq, nthQ_eq, setQ_eq, appQ_eq, mapQ_eq, allQ_eq, anyQ_eq, dropQ_eq, takeQ_eq, revQ_eq, getDQ_eq, optLQ_eq, brecC]
    all_goals
      cases e_1 with
      | nil =>
        try dsimp only [cond_false, cond_true]
        all_goals rfl
      | cons y_2263 y_2264 =>
        try dsimp only [cond_false, cond_true]
        all_goals rfl
  | cons h_0 t_0 =>
    show (List.rec (motive := fun _ => Bool) false (fun a_2265 q_2266 _ => (Bool.rec (motive := fun _ => Bool) false (chkHR n tab fs θ t_0 q_2266) (Bool.rec (motive := fun _ => Bool) (chkC tab fs θ h_0 a_2265) true (qC n h_0 a_2265)))) e_1) = _
    try simp only [iAddQ_eq, iMulQ_eq, iNegQ_eq, lenQ_eq, nthQ_eq, setQ_eq, appQ_eq, mapQ_eq, allQ_eq, anyQ_eq, dropQ_eq, takeQ_eq, revQ_eq, getDQ_eq, optLQ_eq, brecC]
    all_goals
      cases e_1 with
      | nil =>
        try dsimp only [cond_false, cond_true]
        all_goals rfl
      | cons y_2267 y_2268 =>
        try dsimp only [cond_false, cond_true]
        all_goals
          cases hq_3 : ((bif (qC n h_0 y_2267) then true else (chkC tab fs θ h_0 y_2267))) with
          | false =>
            try dsimp only [cond_false, cond_true]
            all_goals rfl
          | true =>
            try dsimp only [cond_false, cond_true]
            all_goals rfl
noncomputable def isSy_a0 :=
  fun (ih : Nat → List Ln → Bool) (e_1 : Nat) (r_2272 : List Ln) (e_2271 : Ln) => ((Bool.rec (motive := fun _ => Bool) false (ih (Nat.succ e_1) r_2272) (Bool.rec (motive := fun _ => Bool) false (Nat.beq (fstS e_2271) e_1) (isS1 e_2271))) : Bool)
noncomputable def isSy  : Nat → Nat → List Ln → Bool :=
  fun e_0 e_1 e_2 => Nat.rec (motive := fun _ => Nat → List Ln → Bool) (fun e_1 e_2 => (List.rec (motive := fun _ => Bool) true (fun x_2269 x_2270 _ => false) e_2)) (fun t_0 ih e_1 e_2 => (List.rec (motive := fun _ => Bool) false (fun e_2271 r_2272 _ => (isSy_a0 ih e_1 r_2272 e_2271)) e_2)) e_0 e_1 e_2
theorem isSy_def  (e_0 : Nat) (e_1 : Nat) (e_2 : List Ln) : isSy  e_0 e_1 e_2 = (match e_0, e_1, e_2 with
  | 0, _, [] => true
  | n + 1, i, e :: r => bif (bif isS1 e then Nat.beq (fstS e) i else false) then isSy n (Nat.succ i) r else false
  | _, _, _ => false) := by
  cases e_0 with
  | zero =>
    show (List.rec (motive := fun _ => Bool) true (fun x_2273 x_2274 _ => false) e_2) = _
    try simp only [iAddQ_eq, iMulQ_eq, iNegQ_eq, lenQ_eq, nthQ_eq, setQ_eq, appQ_eq, mapQ_eq, allQ_eq, anyQ_eq, dropQ_eq, takeQ_eq, revQ_eq, getDQ_eq, optLQ_eq, brecC]
    all_goals
      cases e_2 with
      | nil =>
        try dsimp only [cond_false, cond_true]
        all_goals rfl
      | cons y_2275 y_2276 =>
        try dsimp only [cond_false, cond_true]
        all_goals rfl
  | succ t_0 =>
    show (List.rec (motive := fun _ => Bool) false (fun e_2277 r_2278 _ => (Bool.rec (motive := fun _ => Bool) false (isSy t_0 (Nat.succ e_1) r_2278) (Bool.rec (motive := fun _ => Bool) false (Nat.beq (fstS e_2277) e_1) (isS1 e_2277)))) e_2) = _
    try simp only [iAddQ_eq, iMulQ_eq, iNegQ_eq, lenQ_eq, nthQ_eq, setQ_eq, appQ_eq, mapQ_eq, allQ_eq, anyQ_eq, dropQ_eq, takeQ_eq, revQ_eq, getDQ_eq, optLQ_eq, brecC]
    all_goals
      cases e_2 with
      | nil =>
        try dsimp only [cond_false, cond_true]
        all_goals rfl
      | cons y_2279 y_2280 =>
        try dsimp only [cond_false, cond_true]
        all_goals
          cases hq_3 : ((bif (isS1 y_2279) then (Nat.beq ((fstS y_2279)) e_1) else false)) with
          | false =>
            try dsimp only [cond_false, cond_true]
            all_goals rfl
          | true =>
            try dsimp only [cond_false, cond_true]
            all_goals rfl
noncomputable def rigF (n : Nat) (f : Th) (s : Nat) : Ln :=
  (Bool.rec (motive := fun _ => Ln) (f s) (sL s) (Nat.blt s n))
theorem rigF_def (n : Nat) (f : Th) (s : Nat) : rigF n f s = bif Nat.blt s n then sL s else f s := by
  show (Bool.rec (motive := fun _ => Ln) (f s) (sL s) (Nat.blt s n)) = _
  try simp only [iAddQ_eq, iMulQ_eq, iNegQ_eq, lenQ_eq, nthQ_eq, setQ_eq, appQ_eq, mapQ_eq, allQ_eq, anyQ_eq, dropQ_eq, takeQ_eq, revQ_eq, getDQ_eq, optLQ_eq, brecC]
  all_goals
    cases hq_1 : (Nat.blt s n) with
    | false =>
      try dsimp only [cond_false, cond_true]
      all_goals rfl
    | true =>
      try dsimp only [cond_false, cond_true]
      all_goals rfl
noncomputable def unR (n : Nat) : Un :=
  ((Nat.sub (Nat.shiftLeft (nat_lit 1) n) (nat_lit 1)), [])
theorem unR_def (n : Nat) : unR n = (Nat.sub (Nat.shiftLeft 1 n) 1, []) := by
  show ((Nat.sub (Nat.shiftLeft (nat_lit 1) n) (nat_lit 1)), []) = _
  all_goals rfl
noncomputable def withR (n : Nat) (θ : Un) (k : Th → Bool) : Bool :=
  (Prod.rec (motive := fun _ => Bool) (fun x_2285 x_2286 => (Prod.rec (motive := fun _ => Bool) (fun f_2287 x_2288 => (k (rigF n f_2287))) x_2286)) (balF (nat_lit 9) θ.2))
theorem withR_def (n : Nat) (θ : Un) (k : Th → Bool) : withR n θ k = (match balF 9 θ.2 with
  | (_, f, _) => k (rigF n f)) := by
  show (Prod.rec (motive := fun _ => Bool) (fun x_2281 x_2282 => (Prod.rec (motive := fun _ => Bool) (fun f_2283 x_2284 => (k (rigF n f_2283))) x_2282)) (balF (nat_lit 9) θ.2)) = _
  all_goals
    cases hq_1 : (balF 9 θ.2) with
    | mk y_2289 y_2290 =>
      try dsimp only [cond_false, cond_true]
      all_goals
        cases y_2290 with
        | mk y_2291 y_2292 =>
          try dsimp only [cond_false, cond_true]
          all_goals rfl
noncomputable def instPR_a0 :=
  fun (tab : Tb) (fs : List Ln) (θ : Th) (pr : List PD) (P : Pt) => ((Bool.rec (motive := fun _ => Bool) false (chkP tab fs θ pr P.2.2.2.2.2) (chkF tab fs θ P.2.2.1)) : Bool)
noncomputable def instPR_a1 :=
  fun (tab : Tb) (fs : List Ln) (θ : Th) (pr : List PD) (P : Pt) => ((Bool.rec (motive := fun _ => Bool) false (instPR_a0 tab fs θ pr P) (chkT tab fs θ P.2.1)) : Bool)
noncomputable def instPR_a2 :=
  fun (tab : Tb) (fs : List Ln) (θ : Th) (pr : List PD) (P : Pt) (n : Nat) (A : AH) => ((Bool.rec (motive := fun _ => Bool) false (instPR_a1 tab fs θ pr P) (chkHR n tab fs θ P.2.2.2.2.1 A)) : Bool)
noncomputable def instPR (n : Nat) (tab : Tb) (fs : List Ln) (θ : Th) (P : Pt) (vs : List AV) (A : AH) (pr : List PD) : Bool :=
  (Bool.rec (motive := fun _ => Bool) false (instPR_a2 tab fs θ pr P n A) (chkVs tab fs θ P.2.2.2.1 vs))
theorem instPR_def (n : Nat) (tab : Tb) (fs : List Ln) (θ : Th) (P : Pt) (vs : List AV) (A : AH) (pr : List PD) : instPR n tab fs θ P vs A pr = bif chkVs tab fs θ P.2.2.2.1 vs then (bif chkHR n tab fs θ P.2.2.2.2.1 A then (bif chkT tab fs θ P.2.1 then (bif chkF tab fs θ P.2.2.1 then chkP tab fs θ pr P.2.2.2.2.2 else false) else false) else false) else false := by
  show (Bool.rec (motive := fun _ => Bool) false (Bool.rec (motive := fun _ => Bool) false (Bool.rec (motive := fun _ => Bool) false (Bool.rec (motive := fun _ => Bool) false (chkP tab fs θ pr P.2.2.2.2.2) (chkF tab fs θ P.2.2.1)) (chkT tab fs θ P.2.1)) (chkHR n tab fs θ P.2.2.2.2.1 A)) (chkVs tab fs θ P.2.2.2.1 vs)) = _
  try simp only [iAddQ_eq, iMulQ_eq, iNegQ_eq, lenQ_eq, nthQ_eq, setQ_eq, appQ_eq, mapQ_eq, allQ_eq, anyQ_eq, dropQ_eq, takeQ_eq, revQ_eq, getDQ_eq, optLQ_eq, brecC]
  all_goals
    cases hq_1 : (chkVs tab fs θ P.2.2.2.1 vs) with
    | false =>
      try dsimp only [cond_false, cond_true]
      all_goals rfl
    | true =>
      try dsimp only [cond_false, cond_true]
      all_goals
        cases hq_2 : (chkHR n tab fs θ P.2.2.2.2.1 A) with
        | false =>
          try dsimp only [cond_false, cond_true]
          all_goals rfl
        | true =>
          try dsimp only [cond_false, cond_true]
          all_goals
            cases hq_3 : (chkT tab fs θ P.2.1) with
            | false =>
              try dsimp only [cond_false, cond_true]
              all_goals rfl
            | true =>
              try dsimp only [cond_false, cond_true]
              all_goals
                cases hq_4 : (chkF tab fs θ P.2.2.1) with
                | false =>
                  try dsimp only [cond_false, cond_true]
                  all_goals rfl
                | true =>
                  try dsimp only [cond_false, cond_true]
                  all_goals rfl
noncomputable def instP_a0 :=
  fun (tab : Tb) (fs : List Ln) (θ : Th) (pr : List PD) (P : Pt) => ((Bool.rec (motive := fun _ => Bool) false (chkP tab fs θ pr P.2.2.2.2.2) (chkF tab fs θ P.2.2.1)) : Bool)
noncomputable def instP_a1 :=
  fun (tab : Tb) (fs : List Ln) (θ : Th) (pr : List PD) (P : Pt) => ((Bool.rec (motive := fun _ => Bool) false (instP_a0 tab fs θ pr P) (chkT tab fs θ P.2.1)) : Bool)
noncomputable def instP_a2 :=
  fun (tab : Tb) (fs : List Ln) (θ : Th) (pr : List PD) (P : Pt) (A : AH) => ((Bool.rec (motive := fun _ => Bool) false (instP_a1 tab fs θ pr P) (chkH tab fs θ P.2.2.2.2.1 A)) : Bool)
noncomputable def instP (tab : Tb) (fs : List Ln) (θ : Th) (P : Pt) (vs : List AV) (A : AH) (pr : List PD) : Bool :=
  (Bool.rec (motive := fun _ => Bool) false (instP_a2 tab fs θ pr P A) (chkVs tab fs θ P.2.2.2.1 vs))
theorem instP_def (tab : Tb) (fs : List Ln) (θ : Th) (P : Pt) (vs : List AV) (A : AH) (pr : List PD) : instP tab fs θ P vs A pr = bif chkVs tab fs θ P.2.2.2.1 vs then (bif chkH tab fs θ P.2.2.2.2.1 A then (bif chkT tab fs θ P.2.1 then (bif chkF tab fs θ P.2.2.1 then chkP tab fs θ pr P.2.2.2.2.2 else false) else false) else false) else false := by
  show (Bool.rec (motive := fun _ => Bool) false (Bool.rec (motive := fun _ => Bool) false (Bool.rec (motive := fun _ => Bool) false (Bool.rec (motive := fun _ => Bool) false (chkP tab fs θ pr P.2.2.2.2.2) (chkF tab fs θ P.2.2.1)) (chkT tab fs θ P.2.1)) (chkH tab fs θ P.2.2.2.2.1 A)) (chkVs tab fs θ P.2.2.2.1 vs)) = _
  try simp only [iAddQ_eq, iMulQ_eq, iNegQ_eq, lenQ_eq, nthQ_eq, setQ_eq, appQ_eq, mapQ_eq, allQ_eq, anyQ_eq, dropQ_eq, takeQ_eq, revQ_eq, getDQ_eq, optLQ_eq, brecC]
  all_goals
    cases hq_1 : (chkVs tab fs θ P.2.2.2.1 vs) with
    | false =>
      try dsimp only [cond_false, cond_true]
      all_goals rfl
    | true =>
      try dsimp only [cond_false, cond_true]
      all_goals
        cases hq_2 : (chkH tab fs θ P.2.2.2.2.1 A) with
        | false =>
          try dsimp only [cond_false, cond_true]
          all_goals rfl
        | true =>
          try dsimp only [cond_false, cond_true]
          all_goals
            cases hq_3 : (chkT tab fs θ P.2.1) with
            | false =>
              try dsimp only [cond_false, cond_true]
              all_goals rfl
            | true =>
              try dsimp only [cond_false, cond_true]
              all_goals
                cases hq_4 : (chkF tab fs θ P.2.2.1) with
                | false =>
                  try dsimp only [cond_false, cond_true]
                  all_goals rfl
                | true =>
                  try dsimp only [cond_false, cond_true]
                  all_goals rfl
noncomputable def thOf (tab : Tb) (fs : List Ln) (P : Pt) (vs : List AV) (A : AH) (pr : List PD) : Un :=
  (uniP tab fs pr (uniH (uniVs un0 P.2.2.2.1 vs) P.2.2.2.2.1 A) P.2.2.2.2.2)
theorem thOf_def (tab : Tb) (fs : List Ln) (P : Pt) (vs : List AV) (A : AH) (pr : List PD) : thOf tab fs P vs A pr = uniP tab fs pr (uniH (uniVs un0 P.2.2.2.1 vs) P.2.2.2.2.1 A) P.2.2.2.2.2 := by
  show (uniP tab fs pr (uniH (uniVs un0 P.2.2.2.1 vs) P.2.2.2.2.1 A) P.2.2.2.2.2) = _
  all_goals rfl
section PAT
variable {ρ : Nat → Int} {tab : Tb} {fs : List Ln} {θ : Th}
noncomputable abbrev thE (ρ : Nat → Int) (θ : Th) : Nat → Int := fun s => ev ρ (θ s)
theorem eqLθ (ht : tOk ρ tab) (hf : fOk ρ fs) {e e' : Ln} (h : eqL tab fs (sbL θ e) e' = true) : ev (thE ρ θ) e = ev ρ e' := by
  rw [← eqL_ok ht hf h, ev_sb]
theorem chkV_ok (ht : tOk ρ tab) (hf : fOk ρ fs) {v : Value} {p a : AV} (ha : vrel ρ v a) (h : chkV tab fs θ p a = true) : vrel (thE ρ θ) v p := by
  rw [chkV_def] at h
  split at h
  · rename_i b e b' e'
    cases hb : lnB b b' with
    | false => rw [hb] at h; cases h
    | true =>
      rw [hb] at h
      have := lnB_eq hb
      subst this
      cases b with
      | false => obtain ⟨x, e1, e2⟩ := ha; exact ⟨x, e1, e2.trans (eqLθ ht hf h).symm⟩
      | true => obtain ⟨x, e1, e2⟩ := ha; exact ⟨x, e1, e2.trans (eqLθ ht hf h).symm⟩
  · rename_i i j
    have := Nat.eq_of_beq_eq_true h
    subst this
    exact ha
  · exact ha
  · cases h
theorem chkVs_ok (ht : tOk ρ tab) (hf : fOk ρ fs) {vs : List Value} {ps as : List AV} (ha : rel2 (vrel ρ) vs as) (h : chkVs tab fs θ ps as = true) : rel2 (vrel (thE ρ θ)) vs ps := by
  induction ps generalizing vs as with
  | nil =>
    cases as with
    | nil => rw [rel2_nil ha]; exact trivial
    | cons a r => cases h
  | cons p r ih =>
    cases as with
    | nil => cases h
    | cons a q =>
      rw [chkVs_def] at h
      try dsimp only at h
      cases hc : chkV tab fs θ p a with
      | false => rw [hc] at h; cases h
      | true =>
        rw [hc] at h
        obtain ⟨v, vs', e, h1, h2⟩ := rel2_cons ha
        subst e
        exact ⟨chkV_ok ht hf h1 hc, ih h2 h⟩
theorem srel_zero {ρ : Nat → Int} {lo hi : Int} {r : List Sg} {l : List Int32} (h : srel ρ r l) : srel ρ (.inr (0, lo, hi) :: r) l := ⟨[], l, rfl, rfl, fun x hx => (by cases hx), h⟩
theorem srel_zero' {ρ : Nat → Int} {lo hi : Int} {r : List Sg} {l : List Int32} (h : srel ρ (.inr (0, lo, hi) :: r) l) : srel ρ r l := by
  obtain ⟨l1, l2, e1, e2, e3, e4⟩ := h
  have := List.length_eq_zero_iff.mp e2
  subst this
  subst e1
  exact e4
theorem srel_split {ρ : Nat → Int} {m k : Nat} {lo hi : Int} {r : List Sg} {l : List Int32} (h : srel ρ (.inr (m + k, lo, hi) :: r) l) : ∃ l1 l2, l = l1 ++ l2 ∧ l1.length = m ∧ (∀ x ∈ l1, lo ≤ x.toInt ∧ x.toInt ≤ hi) ∧ srel ρ (.inr (k, lo, hi) :: r) l2 := by
  obtain ⟨l1, l2, e1, e2, e3, e4⟩ := h
  subst e1
  refine ⟨l1.take m, l1.drop m ++ l2, by rw [← List.append_assoc, List.take_append_drop], by rw [List.length_take]; omega, fun x hx => e3 x (List.mem_of_mem_take hx), l1.drop m, l2, rfl, by rw [List.length_drop]; omega, fun x hx => e3 x (List.mem_of_mem_drop hx), e4⟩
theorem srel_join {ρ : Nat → Int} {m k : Nat} {lo hi : Int} {r : List Sg} {l1 l2 : List Int32} (h1 : l1.length = m) (h2 : ∀ x ∈ l1, lo ≤ x.toInt ∧ x.toInt ≤ hi) (h : srel ρ (.inr (k, lo, hi) :: r) l2) : srel ρ (.inr (m + k, lo, hi) :: r) (l1 ++ l2) := by
  obtain ⟨l3, l4, e1, e2, e3, e4⟩ := h
  subst e1
  refine ⟨l1 ++ l3, l4, by rw [List.append_assoc], by rw [List.length_append]; omega, fun x hx => ?_, e4⟩
  rcases List.mem_append.mp hx with q | q
  · exact h2 x q
  · exact e3 x q
theorem sgLe_ok (ht : tOk ρ tab) (hf : fOk ρ fs) : ∀ (n : Nat) (p a : List Sg) (l : List Int32), sgLe tab fs θ n p a = true → srel ρ a l → srel (thE ρ θ) p l := by
  intro n
  induction n with
  | zero => intro p a l h; cases h
  | succ n ih =>
    intro p a l h hl
    rw [sgLe_def] at h
    try dsimp only at h
    split at h
    · exact hl
    · rename_i e r e' q
      cases hc : eqL tab fs (sbL θ e) e' with
      | false => rw [hc] at h; cases h
      | true =>
        rw [hc] at h
        obtain ⟨x, l', e1, e2, h3⟩ := hl
        exact ⟨x, l', e1, e2.trans (eqLθ ht hf hc).symm, ih _ _ _ h h3⟩
    · rename_i e r m lo hi q
      split at h
      · exact ih _ _ _ h (srel_zero' hl)
      · rename_i m
        cases hc : eqI lo hi with
        | false => rw [hc] at h; cases h
        | true =>
          rw [hc] at h
          cases hd : eqL tab fs (sbL θ e) (kL lo) with
          | false => rw [hd] at h; cases h
          | true =>
            rw [hd] at h
            have := eqI_eq hc
            subst this
            rw [show Nat.succ m = 1 + m by omega] at hl
            obtain ⟨l1, l2, e1, e2, e3, e4⟩ := srel_split hl
            match l1, e2 with
            | [x], _ =>
              have e5 := e3 x List.mem_cons_self
              exact ⟨x, l2, e1, by rw [eqLθ ht hf hd, ev_k]; omega, ih _ _ _ h e4⟩
    · rename_i m lo hi r
      cases hc : Nat.beq m 0 with
      | false => rw [hc] at h; cases h
      | true =>
        rw [hc] at h
        have := Nat.eq_of_beq_eq_true hc
        subst this
        exact srel_zero (ih _ _ _ h hl)
    · rename_i m lo hi q
      cases hc : Nat.beq m 0 with
      | false => rw [hc] at h; cases h
      | true =>
        rw [hc] at h
        have := Nat.eq_of_beq_eq_true hc
        subst this
        exact ih _ _ _ h (srel_zero' hl)
    · rename_i m lo hi r e' q
      split at h
      · exact srel_zero (ih _ _ _ h hl)
      · rename_i m
        cases hc : inF tab fs lo hi e' with
        | false => rw [hc] at h; cases h
        | true =>
          rw [hc] at h
          obtain ⟨x, l', e1, e2, h3⟩ := hl
          have e5 := inF_ok ht hf hc
          subst e1
          rw [show Nat.succ m = 1 + m by omega]
          exact srel_join (l1 := [x]) rfl (fun y hy => by rw [List.mem_singleton.mp hy, e2]; exact e5) (ih _ _ _ h h3)
    · rename_i m lo hi r m' lo' hi' q
      cases hc : (bif Nat.beq m' 0 then true else bif Nat.beq m 0 then true else bif leI lo lo' then leI hi' hi else false) with
      | false => rw [hc] at h; cases h
      | true =>
        rw [hc] at h
        have fit : ∀ (k : Nat) (l1 : List Int32), l1.length = k → k ≤ m → k ≤ m' → (∀ x ∈ l1, lo' ≤ x.toInt ∧ x.toInt ≤ hi') → ∀ x ∈ l1, lo ≤ x.toInt ∧ x.toInt ≤ hi := by
          intro k l1 hk h1 h2 hx x hxm
          have hpos : 0 < l1.length := List.length_pos_of_mem hxm
          cases z1 : Nat.beq m' 0 with
          | true => have := Nat.eq_of_beq_eq_true z1; omega
          | false =>
            cases z2 : Nat.beq m 0 with
            | true => have := Nat.eq_of_beq_eq_true z2; omega
            | false =>
              rw [z1, z2] at hc
              simp only [cond_false] at hc
              cases z3 : leI lo lo' with
              | false => rw [z3] at hc; cases hc
              | true =>
                rw [z3] at hc
                have q1 := leI_le z3
                have q2 := leI_le hc
                have q3 := hx x hxm
                omega
        simp only [cond_true] at h
        cases hd : Nat.ble m m' with
        | true =>
          rw [hd] at h
          have hle := Nat.le_of_ble_eq_true hd
          simp only [cond_true] at h
          cases he : Nat.beq m m' with
          | true =>
            rw [he] at h
            have := Nat.eq_of_beq_eq_true he
            subst this
            obtain ⟨l1, l2, e1, e2, e3, e4⟩ := hl
            exact ⟨l1, l2, e1, e2, fit m l1 e2 (Nat.le_refl _) (Nat.le_refl _) e3, ih _ _ _ h e4⟩
          | false =>
            rw [he] at h
            have e0 : m' = m + Nat.sub m' m := by show m' = m + (m' - m); omega
            rw [e0] at hl
            obtain ⟨l1, l2, e1, e2, e3, e4⟩ := srel_split hl
            exact ⟨l1, l2, e1, e2, fit m l1 e2 (Nat.le_refl _) hle e3, ih _ _ _ h e4⟩
        | false =>
          rw [hd] at h
          have hlt : m' < m := Nat.lt_of_not_le fun q => by rw [Nat.ble_eq_true_of_le q] at hd; cases hd
          obtain ⟨l1, l2, e1, e2, e3, e4⟩ := hl
          subst e1
          have e0 : m = m' + Nat.sub m m' := by show m = m' + (m - m'); omega
          rw [e0]
          exact srel_join e2 (fit m' l1 e2 (by omega) (Nat.le_refl _) e3) (ih _ _ _ h e4)
    · cases h
theorem eqO_eq {a b : List (Option Nat)} (h : eqO a b = true) : a = b := by
  induction a generalizing b with
  | nil => cases b with
    | nil => rfl
    | cons q r => cases h
  | cons p r ih => cases b with
    | nil => cases p <;> cases h
    | cons q r' =>
      cases p with
      | none => cases q with
        | none => rw [ih h]
        | some j => cases h
      | some i => cases q with
        | none => cases h
        | some j =>
          rw [eqO_def] at h
          try dsimp only at h
          cases h1 : Nat.beq i j with
          | false => rw [h1] at h; cases h
          | true => rw [h1] at h; rw [Nat.eq_of_beq_eq_true h1, ih h]
theorem eqN_eq {a b : List Nat} (h : eqN a b = true) : a = b := by
  induction a generalizing b with
  | nil => cases b with
    | nil => rfl
    | cons q r => cases h
  | cons p r ih => cases b with
    | nil => cases h
    | cons q r' =>
      rw [eqN_def] at h
      try dsimp only at h
      cases h1 : Nat.beq p q with
      | false => rw [h1] at h; cases h
      | true => rw [h1] at h; rw [Nat.eq_of_beq_eq_true h1, ih h]
theorem chkC_ok (ht : tOk ρ tab) (hf : fOk ρ fs) {c : SC} {p a : AC} (ha : crel ρ c a) (h : chkC tab fs θ p a = true) : crel (thE ρ θ) c p := by
  rw [chkC_def] at h
  split at h
  · rename_i k l k' l'
    cases hb : Nat.beq k k' with
    | false => rw [hb] at h; cases h
    | true =>
      rw [hb] at h
      rw [Nat.eq_of_beq_eq_true hb]
      obtain ⟨f, e1, e2⟩ := ha
      exact ⟨f, e1, chkVs_ok ht hf e2 h⟩
  · rename_i k l k' l'
    cases hb : Nat.beq k k' with
    | false => rw [hb] at h; cases h
    | true =>
      rw [hb] at h
      have hkk := Nat.eq_of_beq_eq_true hb
      subst hkk
      have ha' : arel ρ k l' c := ha
      show arel (thE ρ θ) k l c
      unfold arel at ha' ⊢
      cases hk : Nat.blt k 100 with
      | true =>
        rw [hk] at h
        simp only [cond_true] at h
        rw [if_pos (blt_iff.mp hk)] at ha' ⊢
        obtain ⟨f, e1, e2⟩ := ha'
        exact ⟨f, e1, sgLe_ok ht hf _ _ _ _ h e2⟩
      | false =>
        rw [hk] at h
        have hn : ¬ k < 100 := Nat.not_lt.mpr (blt_f hk)
        rw [if_neg hn] at ha' ⊢
        obtain ⟨f, e1, e2⟩ := ha'
        refine ⟨f, e1, ?_⟩
        simp only [cond_true, cond_false] at h
        rw [conLe_def] at h
        split at h
        · exact Eq.trans e2 (eqLθ ht hf h).symm
        · cases h
  · rename_i k l k' l'
    cases hb : Nat.beq k k' with
    | false => rw [hb] at h; cases h
    | true =>
      rw [hb] at h
      rw [Nat.eq_of_beq_eq_true hb]
      obtain ⟨f, e1, e2⟩ := ha
      simp only [cond_true] at h
      cases hc : Nat.beq l l' with
      | true => exact ⟨f, e1, by rw [Nat.eq_of_beq_eq_true hc]; exact e2⟩
      | false =>
        rw [hc, cond_false] at h
        cases hd : Nat.blt l zB with
        | false => rw [hd] at h; cases h
        | true =>
          rw [hd, cond_true] at h
          have e3 : l' = Nat.add zB l := Nat.eq_of_beq_eq_true h
          have hd' := blt_iff.mp hd
          refine ⟨f, e1, ?_, fun h2 => by rw [hd] at h2; cases h2⟩
          rw [e2.1, e3, jLen_add hd', jLen_lt hd]
  · rename_i k l k' l'
    cases hb : Nat.beq k k' with
    | false => rw [hb] at h; cases h
    | true =>
      rw [hb] at h
      rw [Nat.eq_of_beq_eq_true hb, eqO_eq h]
      exact ha
  · cases h
theorem chkH_ok (ht : tOk ρ tab) (hf : fOk ρ fs) {σ : SH} {ps as : AH} (ha : rel2 (crel ρ) σ as) (h : chkH tab fs θ ps as = true) : rel2 (crel (thE ρ θ)) σ ps := by
  induction ps generalizing σ as with
  | nil =>
    cases as with
    | nil => rw [rel2_nil ha]; exact trivial
    | cons a r => cases h
  | cons p r ih =>
    cases as with
    | nil => cases h
    | cons a q =>
      rw [chkH_def] at h
      try dsimp only at h
      cases hc : chkC tab fs θ p a with
      | false => rw [hc] at h; cases h
      | true =>
        rw [hc] at h
        obtain ⟨v, vs', e, h1, h2⟩ := rel2_cons ha
        subst e
        exact ⟨chkC_ok ht hf h1 hc, ih h2 h⟩
theorem chkN_ok (ht : tOk ρ tab) (hf : fOk ρ fs) {ps as : List Ln} (h : chkN tab fs θ ps as = true) : ps.map (ev (thE ρ θ)) = as.map (ev ρ) := by
  induction ps generalizing as with
  | nil =>
    cases as with
    | nil => rfl
    | cons a r => cases h
  | cons p r ih =>
    cases as with
    | nil => cases h
    | cons a q =>
      rw [chkN_def] at h
      try dsimp only at h
      cases h1 : eqL tab fs (sbL θ p) a with
      | false => rw [h1] at h; cases h
      | true =>
        rw [h1] at h
        rw [List.map_cons, List.map_cons, ih h, eqLθ ht hf h1]
theorem hasP_mem (ht : tOk ρ tab) (hf : fOk ρ fs) {p : PD} {a : List PD} (h : hasP tab fs θ p a = true) : ∃ q ∈ a, p.1 = q.1 ∧ p.2.1 = q.2.1 ∧ p.2.2.map (ev (thE ρ θ)) = q.2.2.map (ev ρ) := by
  induction a with
  | nil => cases h
  | cons q r ih =>
    rw [hasP_def] at h
    try dsimp only at h
    cases h1 : (bif Nat.beq p.1 q.1 then (bif eqN p.2.1 q.2.1 then chkN tab fs θ p.2.2 q.2.2 else false) else false) with
    | false =>
      rw [h1] at h
      obtain ⟨q', q1, q2⟩ := ih h
      exact ⟨q', List.mem_cons_of_mem _ q1, q2⟩
    | true =>
      cases h2 : Nat.beq p.1 q.1 with
      | false => rw [h2] at h1; cases h1
      | true =>
        rw [h2] at h1
        cases h3 : eqN p.2.1 q.2.1 with
        | false => rw [h3] at h1; cases h1
        | true =>
          rw [h3] at h1
          exact ⟨q, List.mem_cons_self, Nat.eq_of_beq_eq_true h2, eqN_eq h3, chkN_ok ht hf h1⟩
theorem chkP_ok (ht : tOk ρ tab) (hf : fOk ρ fs) {a ps : List PD} (h : chkP tab fs θ a ps = true) : ∀ p ∈ ps, ∃ q ∈ a, p.1 = q.1 ∧ p.2.1 = q.2.1 ∧ p.2.2.map (ev (thE ρ θ)) = q.2.2.map (ev ρ) := by
  induction ps with
  | nil => intro p hp; cases hp
  | cons q r ih =>
    rw [chkP_def] at h
    try dsimp only at h
    cases h1 : hasP tab fs θ q a with
    | false => rw [h1] at h; cases h
    | true =>
      rw [h1] at h
      intro p hp
      rcases List.mem_cons.mp hp with rfl | hp
      · exact hasP_mem ht hf h1
      · exact ih h p hp
theorem chkT_ok (ht : tOk ρ tab) (hf : fOk ρ fs) {ps : TbL} (h : chkT tab fs θ ps = true) : tOkL (thE ρ θ) ps := by
  induction ps with
  | nil => intro p hp; cases hp
  | cons q r ih =>
    obtain ⟨s, lo, hi⟩ := q
    rw [chkT_def] at h
    try dsimp only at h
    cases h1 : inF tab fs lo hi (θ s) with
    | false => rw [h1] at h; cases h
    | true =>
      rw [h1] at h
      intro p hp
      rcases List.mem_cons.mp hp with rfl | hp
      · exact inF_ok ht hf h1
      · exact ih h p hp
theorem chkF_ok (ht : tOk ρ tab) (hf : fOk ρ fs) {ps : List Ln} (h : chkF tab fs θ ps = true) : fOk (thE ρ θ) ps := by
  induction ps with
  | nil => intro p hp; cases hp
  | cons q r ih =>
    rw [chkF_def] at h
    try dsimp only at h
    cases h1 : le0 tab fs (sbL θ q) with
    | false => rw [h1] at h; cases h
    | true =>
      rw [h1] at h
      intro p hp
      rcases List.mem_cons.mp hp with rfl | hp
      · have := le0_ok ht hf h1
        rw [ev_sb] at this
        exact this
      · exact ih h p hp
theorem instP_ok {PP : Nat → List (List Int32) → List Int → Prop} {P : Pt} {vs : List AV} {A : AH} {pr : List PD} {cvs : List Value} {σ : SH} (ht : tOk ρ tab) (hf : fOk ρ fs) (hv : rel2 (vrel ρ) cvs vs) (hA : rel2 (crel ρ) σ A) (hp : prOk PP ρ σ pr) (h : instP tab fs θ P vs A pr = true) : PtOk PP (thE ρ θ) P cvs σ := by
  rw [instP_def] at h
  cases h1 : chkVs tab fs θ P.2.2.2.1 vs with
  | false => rw [h1] at h; cases h
  | true =>
    rw [h1] at h
    cases h2 : chkH tab fs θ P.2.2.2.2.1 A with
    | false => rw [h2] at h; cases h
    | true =>
      rw [h2] at h
      cases h3 : chkT tab fs θ P.2.1 with
      | false => rw [h3] at h; cases h
      | true =>
        rw [h3] at h
        cases h4 : chkF tab fs θ P.2.2.1 with
        | false => rw [h4] at h; cases h
        | true =>
          rw [h4] at h
          exact ⟨chkT_ok ht hf h3, chkF_ok ht hf h4, chkVs_ok ht hf hv h1, chkH_ok ht hf hA h2, fun p hq => (by
            obtain ⟨q, q1, q2, q3, q4⟩ := chkP_ok ht hf h p hq
            rw [q2, q3, q4]
            exact hp q q1)⟩
end PAT
-- which symbols a pattern speaks of
noncomputable def scP (P : Pt) : Bool := P.2.1.all (fun q => Nat.blt q.1 P.1) && (P.2.2.1.all (scL P.1) && (P.2.2.2.1.all (scV P.1) && (P.2.2.2.2.1.all (scC P.1) && P.2.2.2.2.2.all (fun p => p.2.2.all (scL P.1)))))
section SC
variable {n : Nat} {ρ ρ' : Nat → Int}
theorem scV_ok (ha : agr2 n ρ ρ') {v : Value} {a : AV} (hs : scV n a = true) (h : vrel ρ v a) : vrel ρ' v a := by
  match a, h with
  | .inl (false, e), ⟨x, e1, e2⟩ => exact ⟨x, e1, e2.trans (scL_ev ha hs).symm⟩
  | .inl (true, e), ⟨x, e1, e2⟩ => exact ⟨x, e1, e2.trans (scL_ev ha hs).symm⟩
  | .inr (.inl (some i)), e1 => exact e1
  | .inr (.inl none), e1 => exact e1
  | .inr (.inr (p, q)), e1 =>
    have hs' : (bif scL n p then scL n q else false) = true := hs
    cases h1 : scL n p with
    | false => rw [h1] at hs'; cases hs'
    | true =>
      rw [h1] at hs'
      show v = .int (cmpZ (ev ρ' p) (ev ρ' q))
      rw [scL_ev ha h1, scL_ev ha hs']
      exact e1
theorem rel2_all {α β : Type} {R R' : α → β → Prop} {f : β → Bool} (hi : ∀ a b, f b = true → R a b → R' a b) {l : List α} {r : List β} (hr : r.all f = true) (h : rel2 R l r) : rel2 R' l r := by
  induction r generalizing l with
  | nil => rw [rel2_nil h]; exact trivial
  | cons b r ih =>
    obtain ⟨a, l', e, h1, h2⟩ := rel2_cons h
    subst e
    rw [List.all_cons, Bool.and_eq_true] at hr
    exact ⟨hi a b hr.1 h1, ih hr.2 h2⟩
theorem scS_ok (ha : agr2 n ρ ρ') {s : List Sg} {l : List Int32} (hs : s.all (scS n) = true) (h : srel ρ s l) : srel ρ' s l := by
  induction s generalizing l with
  | nil => exact h
  | cons q r ih =>
    rw [List.all_cons, Bool.and_eq_true] at hs
    match q, h, hs with
    | .inl e, ⟨x, l', e1, e2, h2⟩, hs => exact ⟨x, l', e1, e2.trans (scL_ev ha hs.1).symm, ih hs.2 h2⟩
    | .inr (m, lo, hi), ⟨l1, l2, e1, e2, e3, h2⟩, hs => exact ⟨l1, l2, e1, e2, e3, ih hs.2 h2⟩
theorem scC_ok (ha : agr2 n ρ ρ') {c : SC} {a : AC} (hs : scC n a = true) (h : crel ρ c a) : crel ρ' c a := by
  match a, h with
  | .inl (ci, as), ⟨fs, e, h'⟩ => exact ⟨fs, e, rel2_all (f := scV n) (R' := vrel ρ') (fun _ _ q r => scV_ok ha q r) hs h'⟩
  | .inr (k, .inl s), h =>
    have h' : arel ρ k s c := h
    show arel ρ' k s c
    unfold arel at h' ⊢
    split at h'
    · rename_i hk
      rw [if_pos hk]
      obtain ⟨l, e, h2⟩ := h'
      exact ⟨l, e, scS_ok ha hs h2⟩
    · rename_i hk
      rw [if_neg hk]
      obtain ⟨l, e, h2⟩ := h'
      refine ⟨l, e, ?_⟩
      match s, hs, h2 with
      | [.inl e], hs, h2 =>
        have hs' : ([Sum.inl e] : List Sg).all (scS n) = true := hs
        simp only [List.all_cons, List.all_nil, Bool.and_true] at hs'
        exact Eq.trans h2 (scL_ev ha hs').symm
  | .inr (k, .inr (.inl m)), ⟨l, e, h'⟩ => exact ⟨l, e, h'⟩
  | .inr (k, .inr (.inr q)), e => exact e
end SC
theorem prOk_agr {PP : Nat → List (List Int32) → List Int → Prop} {n : Nat} {ρ ρ' : Nat → Int} {σ : SH} {pr : List PD} (ha : agr2 n ρ ρ') (hs : pr.all (fun p => p.2.2.all (scL n)) = true) (h : prOk PP ρ σ pr) : prOk PP ρ' σ pr := fun p hp => by
  have e : p.2.2.map (ev ρ') = p.2.2.map (ev ρ) := List.map_congr_left fun e he => scL_ev ha (List.all_eq_true.mp (List.all_eq_true.mp hs p hp) e he)
  rw [e]
  exact h p hp
theorem PtOk_agr {PP : Nat → List (List Int32) → List Int → Prop} {P : Pt} {ρ ρ' : Nat → Int} {vs : List Value} {σ : SH} (hs : scP P = true) (ha : agr2 P.1 ρ ρ') (h : PtOk PP ρ P vs σ) : PtOk PP ρ' P vs σ := by
  unfold scP at hs
  simp only [Bool.and_eq_true] at hs
  obtain ⟨s1, s2, s3, s4, s5⟩ := hs
  obtain ⟨h1, h2, h3, h4, h5⟩ := h
  refine ⟨fun q hq => ?_, fun f hf => ?_, rel2_all (f := scV P.1) (R' := vrel ρ') (fun _ _ q r => scV_ok ha q r) s3 h3, rel2_all (f := scC P.1) (R' := crel ρ') (fun _ _ q r => scC_ok ha q r) s4 h4, prOk_agr ha s5 h5⟩
  · rw [ha q.1 (blt_iff.mp (List.all_eq_true.mp s1 q hq))]
    exact h1 q hq
  · rw [scL_ev ha (List.all_eq_true.mp s2 f hf)]
    exact h2 f hf
-- the same text: the same
theorem eqLn_eq {a b : Ln} (h : eqLn a b = true) : a = b := by
  rw [eqLn_def] at h
  obtain ⟨h1, h2⟩ := cand0 h
  obtain ⟨a1, a2⟩ := a
  obtain ⟨b1, b2⟩ := b
  have e1 : a1 = b1 := eqI_eq h1
  have e2 : a2 = b2 := eqT_eq h2
  rw [e1, e2]
theorem eqAV_eq {p a : AV} (h : eqAV p a = true) : p = a := by
  rw [eqAV_def] at h
  split at h
  · obtain ⟨h1, h2⟩ := cand0 h
    rw [lnB_eq h1, eqLn_eq h2]
  · rw [Nat.eq_of_beq_eq_true h]
  · rfl
  · cases h
theorem eqAVs_eq : ∀ {p a : List AV}, eqAVs p a = true → p = a := by
  intro p
  induction p with
  | nil => intro a h; cases a with
    | nil => rfl
    | cons x y => rw [eqAVs_def] at h; cases h
  | cons x r ih => intro a h; cases a with
    | nil => rw [eqAVs_def] at h; cases h
    | cons y q =>
      rw [eqAVs_def] at h
      obtain ⟨h1, h2⟩ := cand0 h
      rw [eqAV_eq h1, ih h2]
theorem eqSg_eq {p a : Sg} (h : eqSg p a = true) : p = a := by
  rw [eqSg_def] at h
  split at h
  · rw [eqLn_eq h]
  · obtain ⟨h1, h2⟩ := cand0 h
    obtain ⟨h3, h4⟩ := cand0 h2
    rw [Nat.eq_of_beq_eq_true h1, eqI_eq h3, eqI_eq h4]
  · cases h
theorem eqSgs_eq : ∀ {p a : List Sg}, eqSgs p a = true → p = a := by
  intro p
  induction p with
  | nil => intro a h; cases a with
    | nil => rfl
    | cons x y => rw [eqSgs_def] at h; cases h
  | cons x r ih => intro a h; cases a with
    | nil => rw [eqSgs_def] at h; cases h
    | cons y q =>
      rw [eqSgs_def] at h
      obtain ⟨h1, h2⟩ := cand0 h
      rw [eqSg_eq h1, ih h2]
theorem eqAC_eq {p a : AC} (h : eqAC p a = true) : p = a := by
  rw [eqAC_def] at h
  split at h
  · obtain ⟨h1, h2⟩ := cand0 h
    rw [Nat.eq_of_beq_eq_true h1, eqAVs_eq h2]
  · obtain ⟨h1, h2⟩ := cand0 h
    rw [Nat.eq_of_beq_eq_true h1, eqSgs_eq h2]
  · obtain ⟨h1, h2⟩ := cand0 h
    rw [Nat.eq_of_beq_eq_true h1, Nat.eq_of_beq_eq_true h2]
  · obtain ⟨h1, h2⟩ := cand0 h
    rw [Nat.eq_of_beq_eq_true h1, eqO_eq h2]
  · cases h
theorem rigF_lt {n : Nat} {f : Th} {s : Nat} (h : s < n) : rigF n f s = sL s := by
  rw [rigF_def]
  rw [blt_iff.mpr h]
  rfl
theorem rigF_agr {n : Nat} {f : Th} (ρ : Nat → Int) : agr2 n ρ (thE ρ (rigF n f)) := fun i hi => by
  show ev ρ (rigF n f i) = ρ i
  rw [rigF_lt hi, ev_s]
theorem withR_ok {n : Nat} {θ : Un} {k : Th → Bool} (h : withR n θ k = true) : ∃ f, k (rigF n f) = true := by
  rw [withR_def] at h
  split at h
  exact ⟨_, h⟩
theorem chkHR_ok {ρ : Nat → Int} {tab : Tb} {fs : List Ln} {n : Nat} {f : Th} (ht : tOk ρ tab) (hf : fOk ρ fs) {σ : SH} : ∀ {ps as : AH}, rel2 (crel ρ) σ as → chkHR n tab fs (rigF n f) ps as = true → rel2 (crel (thE ρ (rigF n f))) σ ps := by
  intro ps
  induction ps generalizing σ with
  | nil =>
    intro as ha h
    cases as with
    | nil => rw [rel2_nil ha]; exact trivial
    | cons a q => rw [chkHR_def] at h; cases h
  | cons p r ih =>
    intro as ha h
    cases as with
    | nil => rw [chkHR_def] at h; cases h
    | cons a q =>
      rw [chkHR_def] at h
      obtain ⟨h1, h2⟩ := cand0 h
      obtain ⟨c, σ', e, hc, hr⟩ := rel2_cons ha
      subst e
      refine ⟨?_, ih hr h2⟩
      cases hq : qC n p a with
      | false => rw [hq] at h1; exact chkC_ok ht hf hc h1
      | true =>
        rw [qC_def] at hq
        obtain ⟨-, hq⟩ := cand0 hq
        obtain ⟨q1, q2⟩ := cand0 hq
        have e := eqAC_eq q1
        subst e
        exact scC_ok (rigF_agr ρ) q2 hc
theorem instPR_ok {PP : Nat → List (List Int32) → List Int → Prop} {ρ : Nat → Int} {tab : Tb} {fs : List Ln} {n : Nat} {f : Th} {P : Pt} {vs : List AV} {A : AH} {pr : List PD} {cvs : List Value} {σ : SH} (ht : tOk ρ tab) (hf : fOk ρ fs) (hv : rel2 (vrel ρ) cvs vs) (hA : rel2 (crel ρ) σ A) (hp : prOk PP ρ σ pr) (h : instPR n tab fs (rigF n f) P vs A pr = true) : PtOk PP (thE ρ (rigF n f)) P cvs σ := by
  rw [instPR_def] at h
  obtain ⟨h1, h⟩ := cand0 h
  obtain ⟨h2, h⟩ := cand0 h
  obtain ⟨h3, h⟩ := cand0 h
  obtain ⟨h4, h5⟩ := cand0 h
  refine ⟨chkT_ok ht hf h3, chkF_ok ht hf h4, chkVs_ok ht hf hv h1, chkHR_ok ht hf hA h2, fun p hp' => ?_⟩
  obtain ⟨q, q1, q2, q3, q4⟩ := chkP_ok ht hf h5 p hp'
  rw [q2, q3, q4]
  exact hp q q1
theorem isS1_eq {e : Ln} (h : isS1 e = true) : e = sL (fstS e) := by
  obtain ⟨c, ts⟩ := e
  rw [isS1_def] at h
  try dsimp only at h
  split at h
  · rename_i s k
    obtain ⟨h1, h2⟩ := cand0 h
    have e1 := isZ_eq h1
    have e2 := eqI_eq h2
    subst e1
    subst e2
    rfl
  · cases h
theorem isSy_map {ρ : Nat → Int} {f : Th} {N : Nat} : ∀ (n i : Nat) (G : List Ln), i + n ≤ N → isSy n i G = true → G.map (ev (thE ρ (rigF N f))) = G.map (ev ρ) := by
  intro n
  induction n with
  | zero =>
    intro i G hN h
    cases G with
    | nil => rfl
    | cons e r => rw [isSy_def] at h; cases h
  | succ n ih =>
    intro i G hN h
    cases G with
    | nil => rw [isSy_def] at h; cases h
    | cons e r =>
      rw [isSy_def] at h
      obtain ⟨h1, h2⟩ := cand0 h
      obtain ⟨h3, h4⟩ := cand0 h1
      rw [List.map_cons, List.map_cons, ih (Nat.succ i) r (by omega) h2]
      have e1 := isS1_eq h3
      have e2 := Nat.eq_of_beq_eq_true h4
      rw [e1, ev_s, ev_s, e2]
      congr 1
      show ev ρ (rigF N f i) = ρ i
      rw [rigF_lt (by omega), ev_s]
theorem isSy_len : ∀ {n i : Nat} {G G' : List Ln}, isSy n i G = true → isSy n i G' = true → G = G' := by
  intro n
  induction n with
  | zero =>
    intro i G G' h h'
    cases G with
    | cons e r => rw [isSy_def] at h; cases h
    | nil => cases G' with
      | nil => rfl
      | cons e r => rw [isSy_def] at h'; cases h'
  | succ n ih =>
    intro i G G' h h'
    cases G with
    | nil => rw [isSy_def] at h; cases h
    | cons e r => cases G' with
      | nil => rw [isSy_def] at h'; cases h'
      | cons e' r' =>
        rw [isSy_def] at h h'
        obtain ⟨h1, h2⟩ := cand0 h
        obtain ⟨h3, h4⟩ := cand0 h1
        obtain ⟨h1', h2'⟩ := cand0 h'
        obtain ⟨h3', h4'⟩ := cand0 h1'
        rw [isS1_eq h3, isS1_eq h3', Nat.eq_of_beq_eq_true h4, Nat.eq_of_beq_eq_true h4', ih h2 h2']
