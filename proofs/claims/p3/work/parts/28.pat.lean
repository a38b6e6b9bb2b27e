/-! ===== patterns: what is known at a place, in symbols of its own ===== -/
abbrev Pt : Type := Nat × TbL × List Ln × List AV × AH × List PD
noncomputable def PtOk (PP : Nat → List (List Int32) → List Int → Prop) (ρ : Nat → Int) (P : Pt) (vs : List Value) (σ : SH) : Prop :=
  tOkL ρ P.2.1 ∧ fOk ρ P.2.2.1 ∧ rel2 (vrel ρ) vs P.2.2.2.1 ∧ rel2 (crel ρ) σ P.2.2.2.2.1 ∧ prOk PP ρ σ P.2.2.2.2.2
-- the symbols' meaning, found by looking (what is found is checked below)
abbrev Un : Type := Nat × List (Nat × Ln)
noncomputable def un0 : Un := (0, [])
noncomputable def thHas (s : Nat) (θ : Un) : Bool :=
  (Nat.beq (Nat.land (Nat.shiftRight θ.1 s) (nat_lit 1)) (nat_lit 1))
theorem thHas_def (s : Nat) (θ : Un) : thHas s θ = Nat.beq (Nat.land (Nat.shiftRight θ.1 s) 1) 1 := by
  show (Nat.beq (Nat.land (Nat.shiftRight θ.1 s) (nat_lit 1)) (nat_lit 1)) = _
  all_goals rfl
noncomputable def insU_a0 :=
  fun (s : Nat) (e : Ln) (t_1312 : Nat) (x_1313 : Ln) (t_0 : List (Nat × Ln)) => (((s, e) :: ((t_1312, x_1313) :: t_0)) : List (Nat × Ln))
noncomputable def insU_a1 :=
  fun (t_1312 : Nat) (x_1313 : Ln) (ih : List (Nat × Ln)) (s : Nat) (e : Ln) (t_0 : List (Nat × Ln)) => ((Bool.rec (motive := fun _ => List (Nat × Ln)) ((t_1312, x_1313) :: (ih)) (insU_a0 s e t_1312 x_1313 t_0) (Nat.ble t_1312 s)) : List (Nat × Ln))
noncomputable def insU (s : Nat) (e : Ln) : List (Nat × Ln) → List (Nat × Ln) :=
  fun e_0 => List.rec (motive := fun _ => List (Nat × Ln)) [(s, e)] (fun h_0 t_0 ih => (Prod.rec (motive := fun _ => List (Nat × Ln)) (fun t_1312 x_1313 => (insU_a1 t_1312 x_1313 ih s e t_0)) h_0)) e_0 
theorem insU_def (s : Nat) (e : Ln) (e_0 : List (Nat × Ln)) : insU s e e_0 = (match e_0 with
  | [] => [(s, e)]
  | (t, x) :: r => bif Nat.ble t s then (s, e) :: (t, x) :: r else (t, x) :: insU s e r) := by
  cases e_0 with
  | nil =>
    show [(s, e)] = _
    try simp only [iAddQ_eq, iMulQ_eq, iNegQ_eq, lenQ_eq, nthQ_eq, setQ_eq, appQ_eq, mapQ_eq, allQ_eq, anyQ_eq, dropQ_eq, takeQ_eq, revQ_eq, getDQ_eq, optLQ_eq, brecC]
    all_goals rfl
  | cons h_0 t_0 =>
    show (Prod.rec (motive := fun _ => List (Nat × Ln)) (fun t_1314 x_1315 => (Bool.rec (motive := fun _ => List (Nat × Ln)) ((t_1314, x_1315) :: (insU s e t_0)) ((s, e) :: ((t_1314, x_1315) :: t_0)) (Nat.ble t_1314 s))) h_0) = _
    try simp only [iAddQ_eq, iMulQ_eq, iNegQ_eq, lenQ_eq, nthQ_eq, setQ_eq, appQ_eq, mapQ_eq, allQ_eq, anyQ_eq, dropQ_eq, takeQ_eq, revQ_eq, getDQ_eq, optLQ_eq, brecC]
    all_goals
      cases h_0 with
      | mk y_1316 y_1317 =>
        try dsimp only [cond_false, cond_true]
        all_goals
          cases hq_2 : (Nat.ble y_1316 s) with
          | false =>
            try dsimp only [cond_false, cond_true]
            all_goals rfl
          | true =>
            try dsimp only [cond_false, cond_true]
            all_goals rfl
noncomputable def uniL_a0 :=
  fun (θ : Un) (s_1326 : Nat) (a : Ln) (p : Ln) => (((Nat.lor θ.1 (Nat.shiftLeft (nat_lit 1) s_1326)), (insU s_1326 (Bool.rec (motive := fun _ => _) (pluL a (iNegQ p.1)) a (isZ p.1)) θ.2)) : Un)
noncomputable def uniL_a1 :=
  fun (θ : Un) (s_1326 : Nat) (a : Ln) (p : Ln) (k_1327 : Int) => ((Bool.rec (motive := fun _ => Un) θ (uniL_a0 θ s_1326 a p) (eqI k_1327 (.ofNat (nat_lit 1)))) : Un)
noncomputable def uniL_a2 :=
  fun (θ : Un) (s_1326 : Nat) (a : Ln) (p : Ln) (k_1327 : Int) => ((Bool.rec (motive := fun _ => Un) (uniL_a1 θ s_1326 a p k_1327) θ (thHas s_1326 θ)) : Un)
noncomputable def uniL (θ : Un) (p a : Ln) : Un :=
  (List.rec (motive := fun _ => Un) θ (fun x_1324 x_1325 _ => (Prod.rec (motive := fun _ => Un) (fun s_1326 k_1327 => (List.rec (motive := fun _ => Un) (uniL_a2 θ s_1326 a p k_1327) (fun x_1328 x_1329 _ => θ) x_1325)) x_1324)) p.2)
theorem uniL_def (θ : Un) (p a : Ln) : uniL θ p a = (match p.2 with
  | [(s, k)] => bif thHas s θ then θ else bif eqI k 1 then (Nat.lor θ.1 (Nat.shiftLeft 1 s), insU s (bif isZ p.1 then a else pluL a (Int.neg p.1)) θ.2) else θ
  | _ => θ) := by
  show (List.rec (motive := fun _ => Un) θ (fun x_1318 x_1319 _ => (Prod.rec (motive := fun _ => Un) (fun s_1320 k_1321 => (List.rec (motive := fun _ => Un) (Bool.rec (motive := fun _ => Un) (Bool.rec (motive := fun _ => Un) θ ((Nat.lor θ.1 (Nat.shiftLeft (nat_lit 1) s_1320)), (insU s_1320 (Bool.rec (motive := fun _ => _) (pluL a (iNegQ p.1)) a (isZ p.1)) θ.2)) (eqI k_1321 (.ofNat (nat_lit 1)))) θ (thHas s_1320 θ)) (fun x_1322 x_1323 _ => θ) x_1319)) x_1318)) p.2) = _
  try simp only [iAddQ_eq, iMulQ_eq, iNegQ_eq, lenQ_eq, nthQ_eq, setQ_eq, appQ_eq, mapQ_eq, allQ_eq, anyQ_eq, dropQ_eq, takeQ_eq, revQ_eq, getDQ_eq, optLQ_eq, brecC]
  all_goals
    cases hq_1 : p.2 with
    | nil =>
      try dsimp only [cond_false, cond_true]
      all_goals rfl
    | cons y_1330 y_1331 =>
      try dsimp only [cond_false, cond_true]
      all_goals
        cases y_1330 with
        | mk y_1332 y_1333 =>
          try dsimp only [cond_false, cond_true]
          all_goals
            cases y_1331 with
            | nil =>
              try dsimp only [cond_false, cond_true]
              all_goals
                cases hq_4 : (thHas y_1332 θ) with
                | false =>
                  try dsimp only [cond_false, cond_true]
                  all_goals
                    cases hq_5 : (eqI y_1333 1) with
                    | false =>
                      try dsimp only [cond_false, cond_true]
                      all_goals rfl
                    | true =>
                      try dsimp only [cond_false, cond_true]
                      all_goals rfl
                | true =>
                  try dsimp only [cond_false, cond_true]
                  all_goals rfl
            | cons y_1334 y_1335 =>
              try dsimp only [cond_false, cond_true]
              all_goals rfl
noncomputable def thLk_a0 :=
  fun (ih : Ln) (e_1337 : Ln) (s : Nat) (t_1336 : Nat) => ((Bool.rec (motive := fun _ => Ln) (ih) e_1337 (Nat.beq s t_1336)) : Ln)
noncomputable def thLk (s : Nat) : List (Nat × Ln) → Ln :=
  fun e_0 => List.rec (motive := fun _ => Ln) (sL s) (fun h_0 t_0 ih => (Prod.rec (motive := fun _ => Ln) (fun t_1336 e_1337 => (thLk_a0 ih e_1337 s t_1336)) h_0)) e_0 
theorem thLk_def (s : Nat) (e_0 : List (Nat × Ln)) : thLk s e_0 = (match e_0 with
  | [] => sL s
  | (t, e) :: r => bif Nat.beq s t then e else thLk s r) := by
  cases e_0 with
  | nil =>
    show (sL s) = _
    try simp only [iAddQ_eq, iMulQ_eq, iNegQ_eq, lenQ_eq, nthQ_eq, setQ_eq, appQ_eq, mapQ_eq, allQ_eq, anyQ_eq, dropQ_eq, takeQ_eq, revQ_eq, getDQ_eq, optLQ_eq, brecC]
    all_goals rfl
  | cons h_0 t_0 =>
    show (Prod.rec (motive := fun _ => Ln) (fun t_1338 e_1339 => (Bool.rec (motive := fun _ => Ln) (thLk s t_0) e_1339 (Nat.beq s t_1338))) h_0) = _
    try simp only [iAddQ_eq, iMulQ_eq, iNegQ_eq, lenQ_eq, nthQ_eq, setQ_eq, appQ_eq, mapQ_eq, allQ_eq, anyQ_eq, dropQ_eq, takeQ_eq, revQ_eq, getDQ_eq, optLQ_eq, brecC]
    all_goals
      cases h_0 with
      | mk y_1340 y_1341 =>
        try dsimp only [cond_false, cond_true]
        all_goals
          cases hq_2 : (Nat.beq s y_1340) with
          | false =>
            try dsimp only [cond_false, cond_true]
            all_goals rfl
          | true =>
            try dsimp only [cond_false, cond_true]
            all_goals rfl
/-- a list, the greatest first, as a function -/
noncomputable def balF_a0 :=
  (((nat_lit 0), (fun _ => (kL (.ofNat (nat_lit 0)))), []) : Nat × (Nat → Ln) × List (Nat × Ln))
noncomputable def balF_a1 :=
  fun (m2_1352 : Nat) (f2_1354 : (Nat → Ln)) (f_1348 : (Nat → Ln)) (m_1346 : Nat) (r2_1355 : List (Nat × Ln)) => ((m2_1352, (fun t => (Bool.rec (motive := fun _ => _) (f2_1354 t) (f_1348 t) (Nat.ble m_1346 t))), r2_1355) : Nat × (Nat → Ln) × List (Nat × Ln))
noncomputable def balF  : Nat → List (Nat × Ln) → Nat × (Nat → Ln) × List (Nat × Ln) :=
  fun e_0 e_1 => Nat.rec (motive := fun _ => List (Nat × Ln) → Nat × (Nat → Ln) × List (Nat × Ln)) (fun e_1 => (List.rec (motive := fun _ => Nat × (Nat → Ln) × List (Nat × Ln)) balF_a0 (fun x_1342 r_1343 _ => (Prod.rec (motive := fun _ => Nat × (Nat → Ln) × List (Nat × Ln)) (fun s_1344 e_1345 => (s_1344, (fun _ => e_1345), r_1343)) x_1342)) e_1)) (fun t_0 ih e_1 => (Prod.rec (motive := fun _ => Nat × (Nat → Ln) × List (Nat × Ln)) (fun m_1346 x_1347 => (Prod.rec (motive := fun _ => Nat × (Nat → Ln) × List (Nat × Ln)) (fun f_1348 x_1349 => (List.rec (motive := fun _ => Nat × (Nat → Ln) × List (Nat × Ln)) (m_1346, f_1348, []) (fun q_1350 r_1351 _ => (Prod.rec (motive := fun _ => Nat × (Nat → Ln) × List (Nat × Ln)) (fun m2_1352 x_1353 => (Prod.rec (motive := fun _ => Nat × (Nat → Ln) × List (Nat × Ln)) (fun f2_1354 r2_1355 => (balF_a1 m2_1352 f2_1354 f_1348 m_1346 r2_1355)) x_1353)) (ih (q_1350 :: r_1351)))) x_1349)) x_1347)) (ih e_1))) e_0 e_1
theorem balF_def  (e_0 : Nat) (e_1 : List (Nat × Ln)) : balF  e_0 e_1 = (match e_0, e_1 with
  | 0, [] => (0, fun _ => kL 0, [])
  | 0, (s, e) :: r => (s, fun _ => e, r)
  | n + 1, l => match balF n l with
    | (m, f, []) => (m, f, [])
    | (m, f, q :: r) => match balF n (q :: r) with
      | (m2, f2, r2) => (m2, fun t => bif Nat.ble m t then f t else f2 t, r2)) := by
  cases e_0 with
  | zero =>
    show (List.rec (motive := fun _ => Nat × (Nat → Ln) × List (Nat × Ln)) ((nat_lit 0), (fun _ => (kL (.ofNat (nat_lit 0)))), []) (fun x_1356 r_1357 _ => (Prod.rec (motive := fun _ => Nat × (Nat → Ln) × List (Nat × Ln)) (fun s_1358 e_1359 => (s_1358, (fun _ => e_1359), r_1357)) x_1356)) e_1) = _
    try simp only [iAddQ_eq, iMulQ_eq, iNegQ_eq, lenQ_eq, nthQ_eq, setQ_eq, appQ_eq, mapQ_eq, allQ_eq, anyQ_eq, dropQ_eq, takeQ_eq, revQ_eq, getDQ_eq, optLQ_eq, brecC]
    all_goals
      cases e_1 with
      | nil =>
        try dsimp only [cond_false, cond_true]
        all_goals rfl
      | cons y_1360 y_1361 =>
        try dsimp only [cond_false, cond_true]
        all_goals
          cases y_1360 with
          | mk y_1362 y_1363 =>
            try dsimp only [cond_false, cond_true]
            all_goals rfl
  | succ t_0 =>
    show (Prod.rec (motive := fun _ => Nat × (Nat → Ln) × List (Nat × Ln)) (fun m_1364 x_1365 => (Prod.rec (motive := fun _ => Nat × (Nat → Ln) × List (Nat × Ln)) (fun f_1366 x_1367 => (List.rec (motive := fun _ => Nat × (Nat → Ln) × List (Nat × Ln)) (m_1364, f_1366, []) (fun q_1368 r_1369 _ => (Prod.rec (motive := fun _ => Nat × (Nat → Ln) × List (Nat × Ln)) (fun m2_1370 x_1371 => (Prod.rec (motive := fun _ => Nat × (Nat → Ln) × List (Nat × Ln)) (fun f2_1372 r2_1373 => (m2_1370, (fun t => (Bool.rec (motive := fun _ => _) (f2_1372 t) (f_1366 t) (Nat.ble m_1364 t))), r2_1373)) x_1371)) (balF t_0 (q_1368 :: r_1369)))) x_1367)) x_1365)) (balF t_0 e_1)) = _
    try simp only [iAddQ_eq, iMulQ_eq, iNegQ_eq, lenQ_eq, nthQ_eq, setQ_eq, appQ_eq, mapQ_eq, allQ_eq, anyQ_eq, dropQ_eq, takeQ_eq, revQ_eq, getDQ_eq, optLQ_eq, brecC]
    all_goals
      cases hq_3 : (balF t_0 e_1) with
      | mk y_1374 y_1375 =>
        try dsimp only [cond_false, cond_true]
        all_goals
          cases y_1375 with
          | mk y_1376 y_1377 =>
            try dsimp only [cond_false, cond_true]
            all_goals
              cases y_1377 with
              | nil =>
                try dsimp only [cond_false, cond_true]
                all_goals rfl
              | cons y_1378 y_1379 =>
                try dsimp only [cond_false, cond_true]
                all_goals
                  cases hq_6 : (balF t_0 ((y_1378 :: y_1379))) with
                  | mk y_1380 y_1381 =>
                    try dsimp only [cond_false, cond_true]
                    all_goals
                      cases y_1381 with
                      | mk y_1382 y_1383 =>
                        try dsimp only [cond_false, cond_true]
                        all_goals rfl
noncomputable def withF (θ : Un) (k : Th → Bool) : Bool :=
  (Prod.rec (motive := fun _ => Bool) (fun x_1388 x_1389 => (Prod.rec (motive := fun _ => Bool) (fun f_1390 x_1391 => (k f_1390)) x_1389)) (balF (nat_lit 9) θ.2))
theorem withF_def (θ : Un) (k : Th → Bool) : withF θ k = (match balF 9 θ.2 with
  | (_, f, _) => k f) := by
  show (Prod.rec (motive := fun _ => Bool) (fun x_1384 x_1385 => (Prod.rec (motive := fun _ => Bool) (fun f_1386 x_1387 => (k f_1386)) x_1385)) (balF (nat_lit 9) θ.2)) = _
  all_goals
    cases hq_1 : (balF 9 θ.2) with
    | mk y_1392 y_1393 =>
      try dsimp only [cond_false, cond_true]
      all_goals
        cases y_1393 with
        | mk y_1394 y_1395 =>
          try dsimp only [cond_false, cond_true]
          all_goals rfl
theorem withF_ok {θ : Un} {k : Th → Bool} (h : withF θ k = true) : ∃ f, k f = true := by
  rw [withF_def] at h
  split at h
  exact ⟨_, h⟩
noncomputable def uniV (θ : Un) (p a : AV) : Un :=
  (Sum.rec (motive := fun _ => Un) (fun x_1404 => (Prod.rec (motive := fun _ => Un) (fun x_1406 e_1407 => (Sum.rec (motive := fun _ => Un) (fun x_1408 => (Prod.rec (motive := fun _ => Un) (fun x_1410 e_1411 => (uniL θ e_1407 e_1411)) x_1408)) (fun x_1409 => θ) a)) x_1404)) (fun x_1405 => θ) p)
theorem uniV_def (θ : Un) (p a : AV) : uniV θ p a = (match p, a with
  | .inl (_, e), .inl (_, e') => uniL θ e e'
  | _, _ => θ) := by
  show (Sum.rec (motive := fun _ => Un) (fun x_1396 => (Prod.rec (motive := fun _ => Un) (fun x_1398 e_1399 => (Sum.rec (motive := fun _ => Un) (fun x_1400 => (Prod.rec (motive := fun _ => Un) (fun x_1402 e_1403 => (uniL θ e_1399 e_1403)) x_1400)) (fun x_1401 => θ) a)) x_1396)) (fun x_1397 => θ) p) = _
  all_goals
    cases p with
    | inl y_1412 =>
      try dsimp only [cond_false, cond_true]
      all_goals
        cases y_1412 with
        | mk y_1413 y_1414 =>
          try dsimp only [cond_false, cond_true]
          all_goals
            cases a with
            | inl y_1415 =>
              try dsimp only [cond_false, cond_true]
              all_goals
                cases y_1415 with
                | mk y_1416 y_1417 =>
                  try dsimp only [cond_false, cond_true]
                  all_goals rfl
            | inr y_1418 =>
              try dsimp only [cond_false, cond_true]
              all_goals rfl
    | inr y_1419 =>
      try dsimp only [cond_false, cond_true]
      all_goals rfl
noncomputable def uniVs  : Un → List AV → List AV → Un :=
  fun θ e_0 e_1 => List.rec (motive := fun _ => Un → List AV → Un) (fun θ e_1 => θ) (fun h_0 t_0 ih θ e_1 => (List.rec (motive := fun _ => Un) θ (fun a_1420 q_1421 _ => (ih (uniV θ h_0 a_1420) q_1421)) e_1)) e_0 θ e_1
theorem uniVs_def  (θ : Un) (e_0 : List AV) (e_1 : List AV) : uniVs  θ e_0 e_1 = (match e_0, e_1 with
  | p :: r, a :: q => uniVs (uniV θ p a) r q
  | _, _ => θ) := by
  cases e_0 with
  | nil =>
    show θ = _
    try simp only [iAddQ_eq, iMulQ_eq, iNegQ_eq, lenQ_eq, nthQ_eq, setQ_eq, appQ_eq, mapQ_eq, allQ_eq, anyQ_eq, dropQ_eq, takeQ_eq, revQ_eq, getDQ_eq, optLQ_eq, brecC]
    all_goals rfl
  | cons h_0 t_0 =>
    show (List.rec (motive := fun _ => Un) θ (fun a_1422 q_1423 _ => (uniVs (uniV θ h_0 a_1422) t_0 q_1423)) e_1) = _
    try simp only [iAddQ_eq, iMulQ_eq, iNegQ_eq, lenQ_eq, nthQ_eq, setQ_eq, appQ_eq, mapQ_eq, allQ_eq, anyQ_eq, dropQ_eq, takeQ_eq, revQ_eq, getDQ_eq, optLQ_eq, brecC]
    all_goals
      cases e_1 with
      | nil =>
        try dsimp only [cond_false, cond_true]
        all_goals rfl
      | cons y_1424 y_1425 =>
        try dsimp only [cond_false, cond_true]
        all_goals rfl
noncomputable def uniS_a0 :=
  fun (ih : Un → List Sg → List Sg → Un) (e_1 : Un) (e_1428 : Ln) (e_1432 : Ln) (r_1427 : List Sg) (q_1431 : List Sg) => ((ih (uniL e_1 e_1428 e_1432) r_1427 q_1431) : Un)
noncomputable def uniS_a1 :=
  fun (ih : Un → List Sg → List Sg → Un) (e_1 : Un) (e_1428 : Ln) (r_1427 : List Sg) (q_1431 : List Sg) => ((ih e_1 ((.inl e_1428) :: r_1427) q_1431) : Un)
noncomputable def uniS_a2 :=
  fun (ih : Un → List Sg → List Sg → Un) (e_1 : Un) (e_1428 : Ln) (lo_1436 : Int) (hi_1437 : Int) (r_1427 : List Sg) (m_1438 : Nat) (q_1431 : List Sg) => ((ih (Bool.rec (motive := fun _ => Un) e_1 (uniL e_1 e_1428 (kL lo_1436)) (eqI lo_1436 hi_1437)) r_1427 ((.inr (m_1438, lo_1436, hi_1437)) :: q_1431)) : Un)
noncomputable def uniS_a3 :=
  fun (ih : Un → List Sg → List Sg → Un) (e_1 : Un) (r_1427 : List Sg) (e_1445 : Ln) (q_1444 : List Sg) => ((ih e_1 r_1427 ((.inl e_1445) :: q_1444)) : Un)
noncomputable def uniS_a4 :=
  fun (ih : Un → List Sg → List Sg → Un) (e_1 : Un) (m_1447 : Nat) (lo_1441 : Int) (hi_1442 : Int) (r_1427 : List Sg) (q_1444 : List Sg) => ((ih e_1 ((.inr (m_1447, lo_1441, hi_1442)) :: r_1427) q_1444) : Un)
noncomputable def uniS_a5 :=
  fun (ih : Un → List Sg → List Sg → Un) (e_1 : Un) (m_1439 : Nat) (m_1448 : Nat) (lo_1441 : Int) (hi_1442 : Int) (r_1427 : List Sg) (q_1444 : List Sg) => ((ih e_1 ((.inr ((Nat.sub m_1439 m_1448), lo_1441, hi_1442)) :: r_1427) q_1444) : Un)
noncomputable def uniS_a6 :=
  fun (ih : Un → List Sg → List Sg → Un) (e_1 : Un) (r_1427 : List Sg) (m_1448 : Nat) (m_1439 : Nat) (lo_1450 : Int) (hi_1451 : Int) (q_1444 : List Sg) => ((ih e_1 r_1427 ((.inr ((Nat.sub m_1448 m_1439), lo_1450, hi_1451)) :: q_1444)) : Un)
noncomputable def uniS_a7 :=
  fun (ih : Un → List Sg → List Sg → Un) (e_1 : Un) (r_1427 : List Sg) (m_1448 : Nat) (m_1439 : Nat) (lo_1450 : Int) (hi_1451 : Int) (q_1444 : List Sg) => ((Bool.rec (motive := fun _ => Un) (uniS_a6 ih e_1 r_1427 m_1448 m_1439 lo_1450 hi_1451 q_1444) (ih e_1 r_1427 q_1444) (Nat.beq m_1439 m_1448)) : Un)
noncomputable def uniS_a8 :=
  fun (ih : Un → List Sg → List Sg → Un) (e_1 : Un) (m_1439 : Nat) (m_1448 : Nat) (lo_1441 : Int) (hi_1442 : Int) (r_1427 : List Sg) (q_1444 : List Sg) (lo_1450 : Int) (hi_1451 : Int) => ((Bool.rec (motive := fun _ => Un) (uniS_a5 ih e_1 m_1439 m_1448 lo_1441 hi_1442 r_1427 q_1444) (uniS_a7 ih e_1 r_1427 m_1448 m_1439 lo_1450 hi_1451 q_1444) (Nat.ble m_1439 m_1448)) : Un)
noncomputable def uniS  : Nat → Un → List Sg → List Sg → Un :=
  fun e_0 e_1 e_2 e_3 => Nat.rec (motive := fun _ => Un → List Sg → List Sg → Un) (fun e_1 e_2 e_3 => e_1) (fun t_0 ih e_1 e_2 e_3 => (List.rec (motive := fun _ => Un) e_1 (fun x_1426 r_1427 _ => (Sum.rec (motive := fun _ => Un) (fun e_1428 => (List.rec (motive := fun _ => Un) e_1 (fun x_1430 q_1431 _ => (Sum.rec (motive := fun _ => Un) (fun e_1432 => (uniS_a0 ih e_1 e_1428 e_1432 r_1427 q_1431)) (fun x_1433 => (Prod.rec (motive := fun _ => Un) (fun m_1434 x_1435 => (Prod.rec (motive := fun _ => Un) (fun lo_1436 hi_1437 => (Nat.rec (motive := fun _ => Un) (uniS_a1 ih e_1 e_1428 r_1427 q_1431) (fun m_1438 _ => (uniS_a2 ih e_1 e_1428 lo_1436 hi_1437 r_1427 m_1438 q_1431)) m_1434)) x_1435)) x_1433)) x_1430)) e_3)) (fun x_1429 => (Prod.rec (motive := fun _ => Un) (fun m_1439 x_1440 => (Prod.rec (motive := fun _ => Un) (fun lo_1441 hi_1442 => (List.rec (motive := fun _ => Un) e_1 (fun x_1443 q_1444 _ => (Sum.rec (motive := fun _ => Un) (fun e_1445 => (Nat.rec (motive := fun _ => Un) (uniS_a3 ih e_1 r_1427 e_1445 q_1444) (fun m_1447 _ => (uniS_a4 ih e_1 m_1447 lo_1441 hi_1442 r_1427 q_1444)) m_1439)) (fun x_1446 => (Prod.rec (motive := fun _ => Un) (fun m_1448 x_1449 => (Prod.rec (motive := fun _ => Un) (fun lo_1450 hi_1451 => (uniS_a8 ih e_1 m_1439 m_1448 lo_1441 hi_1442 r_1427 q_1444 lo_1450 hi_1451)) x_1449)) x_1446)) x_1443)) e_3)) x_1440)) x_1429)) x_1426)) e_2)) e_0 e_1 e_2 e_3
theorem uniS_def  (e_0 : Nat) (e_1 : Un) (e_2 : List Sg) (e_3 : List Sg) : uniS  e_0 e_1 e_2 e_3 = (match e_0, e_1, e_2, e_3 with
  | 0, θ, _, _ => θ
  | n + 1, θ, p, a => match p, a with
    | .inl e :: r, .inl e' :: q => uniS n (uniL θ e e') r q
    | .inl e :: r, .inr (m, lo, hi) :: q => match m with
      | 0 => uniS n θ (.inl e :: r) q
      | m + 1 => uniS n (bif eqI lo hi then uniL θ e (kL lo) else θ) r (.inr (m, lo, hi) :: q)
    | .inr (m, lo, hi) :: r, .inl e' :: q => match m with
      | 0 => uniS n θ r (.inl e' :: q)
      | m + 1 => uniS n θ (.inr (m, lo, hi) :: r) q
    | .inr (m, lo, hi) :: r, .inr (m', lo', hi') :: q => bif Nat.ble m m' then (bif Nat.beq m m' then uniS n θ r q else uniS n θ r (.inr (Nat.sub m' m, lo', hi') :: q)) else uniS n θ (.inr (Nat.sub m m', lo, hi) :: r) q
    | _, _ => θ) := by
  cases e_0 with
  | zero =>
    show e_1 = _
    try simp only [iAddQ_eq, iMulQ_eq, iNegQ_eq, lenQ_eq, nthQ_eq, setQ_eq, appQ_eq, mapQ_eq, allQ_eq, anyQ_eq, dropQ_eq, takeQ_eq, revQ_eq, getDQ_eq, optLQ_eq, brecC]
    all_goals rfl
  | succ t_0 =>
    show (List.rec (motive := fun _ => Un) e_1 (fun x_1452 r_1453 _ => (Sum.rec (motive := fun _ => Un) (fun e_1454 => (List.rec (motive := fun _ => Un) e_1 (fun x_1456 q_1457 _ => (Sum.rec (motive := fun _ => Un) (fun e_1458 => (uniS t_0 (uniL e_1 e_1454 e_1458) r_1453 q_1457)) (fun x_1459 => (Prod.rec (motive := fun _ => Un) (fun m_1460 x_1461 => (Prod.rec (motive := fun _ => Un) (fun lo_1462 hi_1463 => (Nat.rec (motive := fun _ => Un) (uniS t_0 e_1 ((.inl e_1454) :: r_1453) q_1457) (fun m_1464 _ => (uniS t_0 (Bool.rec (motive := fun _ => Un) e_1 (uniL e_1 e_1454 (kL lo_1462)) (eqI lo_1462 hi_1463)) r_1453 ((.inr (m_1464, lo_1462, hi_1463)) :: q_1457))) m_1460)) x_1461)) x_1459)) x_1456)) e_3)) (fun x_1455 => (Prod.rec (motive := fun _ => Un) (fun m_1465 x_1466 => (Prod.rec (motive := fun _ => Un) (fun lo_1467 hi_1468 => (List.rec (motive := fun _ => Un) e_1 (fun x_1469 q_1470 _ => (Sum.rec (motive := fun _ => Un) (fun e_1471 => (Nat.rec (motive := fun _ => Un) (uniS t_0 e_1 r_1453 ((.inl e_1471) :: q_1470)) (fun m_1473 _ => (uniS t_0 e_1 ((.inr (m_1473, lo_1467, hi_1468)) :: r_1453) q_1470)) m_1465)) (fun x_1472 => (Prod.rec (motive := fun _ => Un) (fun m_1474 x_1475 => (Prod.rec (motive := fun _ => Un) (fun lo_1476 hi_1477 => (Bool.rec (motive := fun _ => Un) (uniS t_0 e_1 ((.inr ((Nat.sub m_1465 m_1474), lo_1467, hi_1468)) :: r_1453) q_1470) (Bool.rec (motive := fun _ => Un) (uniS t_0 e_1 r_1453 ((.inr ((Nat.sub m_1474 m_1465), lo_1476, hi_1477)) :: q_1470)) (uniS t_0 e_1 r_1453 q_1470) (Nat.beq m_1465 m_1474)) (Nat.ble m_1465 m_1474))) x_1475)) x_1472)) x_1469)) e_3)) x_1466)) x_1455)) x_1452)) e_2) = _
    try simp only [iAddQ_eq, iMulQ_eq, iNegQ_eq, lenQ_eq, nthQ_eq, setQ_eq, appQ_eq, mapQ_eq, allQ_eq, anyQ_eq, dropQ_eq, takeQ_eq, revQ_eq, getDQ_eq, optLQ_eq, brecC]
    all_goals
      cases e_2 with
      | nil =>
        try dsimp only [cond_false, cond_true]
        all_goals rfl
      | cons y_1478 y_1479 =>
        try dsimp only [cond_false, cond_true]
        all_goals
          cases y_1478 with
          | inl y_1480 =>
            try dsimp only [cond_false, cond_true]
            all_goals
              cases e_3 with
              | nil =>
                try dsimp only [cond_false, cond_true]
                all_goals rfl
              | cons y_1481 y_1482 =>
                try dsimp only [cond_false, cond_true]
                all_goals
                  cases y_1481 with
                  | inl y_1483 =>
                    try dsimp only [cond_false, cond_true]
                    all_goals rfl
                  | inr y_1484 =>
                    try dsimp only [cond_false, cond_true]
                    all_goals
                      cases y_1484 with
                      | mk y_1485 y_1486 =>
                        try dsimp only [cond_false, cond_true]
                        all_goals
                          cases y_1486 with
                          | mk y_1487 y_1488 =>
                            try dsimp only [cond_false, cond_true]
                            all_goals
                              cases y_1485 with
                              | zero =>
                                try dsimp only [cond_false, cond_true]
                                all_goals rfl
                              | succ y_1489 =>
                                try dsimp only [cond_false, cond_true]
                                all_goals rfl
          | inr y_1490 =>
            try dsimp only [cond_false, cond_true]
            all_goals
              cases y_1490 with
              | mk y_1491 y_1492 =>
                try dsimp only [cond_false, cond_true]
                all_goals
                  cases y_1492 with
                  | mk y_1493 y_1494 =>
                    try dsimp only [cond_false, cond_true]
                    all_goals
                      cases e_3 with
                      | nil =>
                        try dsimp only [cond_false, cond_true]
                        all_goals rfl
                      | cons y_1495 y_1496 =>
                        try dsimp only [cond_false, cond_true]
                        all_goals
                          cases y_1495 with
                          | inl y_1497 =>
                            try dsimp only [cond_false, cond_true]
                            all_goals
                              cases y_1491 with
                              | zero =>
                                try dsimp only [cond_false, cond_true]
                                all_goals rfl
                              | succ y_1498 =>
                                try dsimp only [cond_false, cond_true]
                                all_goals rfl
                          | inr y_1499 =>
                            try dsimp only [cond_false, cond_true]
                            all_goals
                              cases y_1499 with
                              | mk y_1500 y_1501 =>
                                try dsimp only [cond_false, cond_true]
                                all_goals
                                  cases y_1501 with
                                  | mk y_1502 y_1503 =>
                                    try dsimp only [cond_false, cond_true]
                                    all_goals
                                      cases hq_15 : (Nat.ble y_1491 y_1500) with
                                      | false =>
                                        try dsimp only [cond_false, cond_true]
                                        all_goals rfl
                                      | true =>
                                        try dsimp only [cond_false, cond_true]
                                        all_goals
                                          cases hq_16 : (Nat.beq y_1491 y_1500) with
                                          | false =>
                                            try dsimp only [cond_false, cond_true]
                                            all_goals rfl
                                          | true =>
                                            try dsimp only [cond_false, cond_true]
                                            all_goals rfl
noncomputable def uniC_a0 :=
  fun (θ : Un) (s_1532 : List Sg) (s_1538 : List Sg) => ((uniS (nat_lit 600) θ s_1532 s_1538) : Un)
noncomputable def uniC (θ : Un) (p a : AC) : Un :=
  (Sum.rec (motive := fun _ => Un) (fun x_1522 => (Prod.rec (motive := fun _ => Un) (fun x_1524 l_1525 => (Sum.rec (motive := fun _ => Un) (fun x_1526 => (Prod.rec (motive := fun _ => Un) (fun x_1528 l_1529 => (uniVs θ l_1525 l_1529)) x_1526)) (fun x_1527 => θ) a)) x_1522)) (fun x_1523 => (Prod.rec (motive := fun _ => Un) (fun x_1530 x_1531 => (Sum.rec (motive := fun _ => Un) (fun s_1532 => (Sum.rec (motive := fun _ => Un) (fun x_1534 => θ) (fun x_1535 => (Prod.rec (motive := fun _ => Un) (fun x_1536 x_1537 => (Sum.rec (motive := fun _ => Un) (fun s_1538 => (uniC_a0 θ s_1532 s_1538)) (fun x_1539 => θ) x_1537)) x_1535)) a)) (fun x_1533 => θ) x_1531)) x_1523)) p)
theorem uniC_def (θ : Un) (p a : AC) : uniC θ p a = (match p, a with
  | .inl (_, l), .inl (_, l') => uniVs θ l l'
  | .inr (_, .inl s), .inr (_, .inl s') => uniS 600 θ s s'
  | _, _ => θ) := by
  show (Sum.rec (motive := fun _ => Un) (fun x_1504 => (Prod.rec (motive := fun _ => Un) (fun x_1506 l_1507 => (Sum.rec (motive := fun _ => Un) (fun x_1508 => (Prod.rec (motive := fun _ => Un) (fun x_1510 l_1511 => (uniVs θ l_1507 l_1511)) x_1508)) (fun x_1509 => θ) a)) x_1504)) (fun x_1505 => (Prod.rec (motive := fun _ => Un) (fun x_1512 x_1513 => (Sum.rec (motive := fun _ => Un) (fun s_1514 => (Sum.rec (motive := fun _ => Un) (fun x_1516 => θ) (fun x_1517 => (Prod.rec (motive := fun _ => Un) (fun x_1518 x_1519 => (Sum.rec (motive := fun _ => Un) (fun s_1520 => (uniS (nat_lit 600) θ s_1514 s_1520)) (fun x_1521 => θ) x_1519)) x_1517)) a)) (fun x_1515 => θ) x_1513)) x_1505)) p) = _
  all_goals
    cases p with
    | inl y_1540 =>
      try dsimp only [cond_false, cond_true]
      all_goals
        cases y_1540 with
        | mk y_1541 y_1542 =>
          try dsimp only [cond_false, cond_true]
          all_goals
            cases a with
            | inl y_1543 =>
              try dsimp only [cond_false, cond_true]
              all_goals
                cases y_1543 with
                | mk y_1544 y_1545 =>
                  try dsimp only [cond_false, cond_true]
                  all_goals rfl
            | inr y_1546 =>
              try dsimp only [cond_false, cond_true]
              all_goals rfl
    | inr y_1547 =>
      try dsimp only [cond_false, cond_true]
      all_goals
        cases y_1547 with
        | mk y_1548 y_1549 =>
          try dsimp only [cond_false, cond_true]
          all_goals
            cases y_1549 with
            | inl y_1550 =>
              try dsimp only [cond_false, cond_true]
              all_goals
                cases a with
                | inl y_1551 =>
                  try dsimp only [cond_false, cond_true]
                  all_goals rfl
                | inr y_1552 =>
                  try dsimp only [cond_false, cond_true]
                  all_goals
                    cases y_1552 with
                    | mk y_1553 y_1554 =>
                      try dsimp only [cond_false, cond_true]
                      all_goals
                        cases y_1554 with
                        | inl y_1555 =>
                          try dsimp only [cond_false, cond_true]
                          all_goals rfl
                        | inr y_1556 =>
                          try dsimp only [cond_false, cond_true]
                          all_goals rfl
            | inr y_1557 =>
              try dsimp only [cond_false, cond_true]
              all_goals rfl
noncomputable def uniH  : Un → AH → AH → Un :=
  fun θ e_0 e_1 => List.rec (motive := fun _ => Un → AH → Un) (fun θ e_1 => θ) (fun h_0 t_0 ih θ e_1 => (List.rec (motive := fun _ => Un) θ (fun a_1558 q_1559 _ => (ih (uniC θ h_0 a_1558) q_1559)) e_1)) e_0 θ e_1
theorem uniH_def  (θ : Un) (e_0 : AH) (e_1 : AH) : uniH  θ e_0 e_1 = (match e_0, e_1 with
  | p :: r, a :: q => uniH (uniC θ p a) r q
  | _, _ => θ) := by
  cases e_0 with
  | nil =>
    show θ = _
    try simp only [iAddQ_eq, iMulQ_eq, iNegQ_eq, lenQ_eq, nthQ_eq, setQ_eq, appQ_eq, mapQ_eq, allQ_eq, anyQ_eq, dropQ_eq, takeQ_eq, revQ_eq, getDQ_eq, optLQ_eq, brecC]
    all_goals rfl
  | cons h_0 t_0 =>
    show (List.rec (motive := fun _ => Un) θ (fun a_1560 q_1561 _ => (uniH (uniC θ h_0 a_1560) t_0 q_1561)) e_1) = _
    try simp only [iAddQ_eq, iMulQ_eq, iNegQ_eq, lenQ_eq, nthQ_eq, setQ_eq, appQ_eq, mapQ_eq, allQ_eq, anyQ_eq, dropQ_eq, takeQ_eq, revQ_eq, getDQ_eq, optLQ_eq, brecC]
    all_goals
      cases e_1 with
      | nil =>
        try dsimp only [cond_false, cond_true]
        all_goals rfl
      | cons y_1562 y_1563 =>
        try dsimp only [cond_false, cond_true]
        all_goals rfl
noncomputable def okNum_a0 :=
  fun (tab : Tb) (fs : List Ln) (θ : Un) (p : Ln) (a : Ln) => ((eqL tab fs (sbL (fun s => (thLk s θ.2)) p) a) : Bool)
noncomputable def okNum_a1 :=
  fun (tab : Tb) (fs : List Ln) (θ : Un) (p : Ln) (a : Ln) (s_1576 : Nat) => ((Bool.rec (motive := fun _ => Bool) true (okNum_a0 tab fs θ p a) (thHas s_1576 θ)) : Bool)
noncomputable def okNum (tab : Tb) (fs : List Ln) (θ : Un) (p a : Ln) : Bool :=
  (List.rec (motive := fun _ => Bool) (List.rec (motive := fun _ => Bool) (eqI p.1 a.1) (fun x_1574 x_1575 _ => true) a.2) (fun x_1572 x_1573 _ => (Prod.rec (motive := fun _ => Bool) (fun s_1576 x_1577 => (List.rec (motive := fun _ => Bool) (okNum_a1 tab fs θ p a s_1576) (fun x_1578 x_1579 _ => true) x_1573)) x_1572)) p.2)
theorem okNum_def (tab : Tb) (fs : List Ln) (θ : Un) (p a : Ln) : okNum tab fs θ p a = (match p.2 with
  | [(s, _)] => bif thHas s θ then eqL tab fs (sbL (fun s => thLk s θ.2) p) a else true
  | [] => (match a.2 with
    | [] => eqI p.1 a.1
    | _ => true)
  | _ => true) := by
  show (List.rec (motive := fun _ => Bool) (List.rec (motive := fun _ => Bool) (eqI p.1 a.1) (fun x_1566 x_1567 _ => true) a.2) (fun x_1564 x_1565 _ => (Prod.rec (motive := fun _ => Bool) (fun s_1568 x_1569 => (List.rec (motive := fun _ => Bool) (Bool.rec (motive := fun _ => Bool) true (eqL tab fs (sbL (fun s => (thLk s θ.2)) p) a) (thHas s_1568 θ)) (fun x_1570 x_1571 _ => true) x_1565)) x_1564)) p.2) = _
  try simp only [iAddQ_eq, iMulQ_eq, iNegQ_eq, lenQ_eq, nthQ_eq, setQ_eq, appQ_eq, mapQ_eq, allQ_eq, anyQ_eq, dropQ_eq, takeQ_eq, revQ_eq, getDQ_eq, optLQ_eq, brecC]
  all_goals
    cases hq_1 : p.2 with
    | nil =>
      try dsimp only [cond_false, cond_true]
      all_goals
        cases hq_2 : a.2 with
        | nil =>
          try dsimp only [cond_false, cond_true]
          all_goals rfl
        | cons y_1580 y_1581 =>
          try dsimp only [cond_false, cond_true]
          all_goals rfl
    | cons y_1582 y_1583 =>
      try dsimp only [cond_false, cond_true]
      all_goals
        cases y_1582 with
        | mk y_1584 y_1585 =>
          try dsimp only [cond_false, cond_true]
          all_goals
            cases y_1583 with
            | nil =>
              try dsimp only [cond_false, cond_true]
              all_goals
                cases hq_5 : (thHas y_1584 θ) with
                | false =>
                  try dsimp only [cond_false, cond_true]
                  all_goals rfl
                | true =>
                  try dsimp only [cond_false, cond_true]
                  all_goals rfl
            | cons y_1586 y_1587 =>
              try dsimp only [cond_false, cond_true]
              all_goals rfl
noncomputable def okNums_a0 :=
  fun (ih : List Ln → Bool) (q_1591 : List Ln) (tab : Tb) (fs : List Ln) (θ : Un) (h_0 : Ln) (a_1590 : Ln) => ((Bool.rec (motive := fun _ => Bool) false (ih q_1591) (okNum tab fs θ h_0 a_1590)) : Bool)
noncomputable def okNums (tab : Tb) (fs : List Ln) (θ : Un) : List Ln → List Ln → Bool :=
  fun e_0 e_1 => List.rec (motive := fun _ => List Ln → Bool) (fun e_1 => (List.rec (motive := fun _ => Bool) true (fun x_1588 x_1589 _ => false) e_1)) (fun h_0 t_0 ih e_1 => (List.rec (motive := fun _ => Bool) false (fun a_1590 q_1591 _ => (okNums_a0 ih q_1591 tab fs θ h_0 a_1590)) e_1)) e_0 e_1
theorem okNums_def (tab : Tb) (fs : List Ln) (θ : Un) (e_0 : List Ln) (e_1 : List Ln) : okNums tab fs θ e_0 e_1 = (match e_0, e_1 with
  | p :: r, a :: q => bif okNum tab fs θ p a then okNums tab fs θ r q else false
  | [], [] => true
  | _, _ => false) := by
  cases e_0 with
  | nil =>
    show (List.rec (motive := fun _ => Bool) true (fun x_1592 x_1593 _ => false) e_1) = _
    try simp only [iAddQ_eq, iMulQ_eq, iNegQ_eq, lenQ_eq, nthQ_eq, setQ_eq, appQ_eq, mapQ_eq, allQ_eq, anyQ_eq, dropQ_eq, takeQ_eq, revQ_eq, getDQ_eq, optLQ_eq, brecC]
    all_goals
      cases e_1 with
      | nil =>
        try dsimp only [cond_false, cond_true]
        all_goals rfl
      | cons y_1594 y_1595 =>
        try dsimp only [cond_false, cond_true]
        all_goals rfl
  | cons h_0 t_0 =>
    show (List.rec (motive := fun _ => Bool) false (fun a_1596 q_1597 _ => (Bool.rec (motive := fun _ => Bool) false (okNums tab fs θ t_0 q_1597) (okNum tab fs θ h_0 a_1596))) e_1) = _
    try simp only [iAddQ_eq, iMulQ_eq, iNegQ_eq, lenQ_eq, nthQ_eq, setQ_eq, appQ_eq, mapQ_eq, allQ_eq, anyQ_eq, dropQ_eq, takeQ_eq, revQ_eq, getDQ_eq, optLQ_eq, brecC]
    all_goals
      cases e_1 with
      | nil =>
        try dsimp only [cond_false, cond_true]
        all_goals rfl
      | cons y_1598 y_1599 =>
        try dsimp only [cond_false, cond_true]
        all_goals
          cases hq_3 : (okNum tab fs θ h_0 y_1598) with
          | false =>
            try dsimp only [cond_false, cond_true]
            all_goals rfl
          | true =>
            try dsimp only [cond_false, cond_true]
            all_goals rfl
noncomputable def uniN  : Un → List Ln → List Ln → Un :=
  fun θ e_0 e_1 => List.rec (motive := fun _ => Un → List Ln → Un) (fun θ e_1 => θ) (fun h_0 t_0 ih θ e_1 => (List.rec (motive := fun _ => Un) θ (fun a_1600 q_1601 _ => (ih (uniL θ h_0 a_1600) q_1601)) e_1)) e_0 θ e_1
theorem uniN_def  (θ : Un) (e_0 : List Ln) (e_1 : List Ln) : uniN  θ e_0 e_1 = (match e_0, e_1 with
  | p :: r, a :: q => uniN (uniL θ p a) r q
  | _, _ => θ) := by
  cases e_0 with
  | nil =>
    show θ = _
    try simp only [iAddQ_eq, iMulQ_eq, iNegQ_eq, lenQ_eq, nthQ_eq, setQ_eq, appQ_eq, mapQ_eq, allQ_eq, anyQ_eq, dropQ_eq, takeQ_eq, revQ_eq, getDQ_eq, optLQ_eq, brecC]
    all_goals rfl
  | cons h_0 t_0 =>
    show (List.rec (motive := fun _ => Un) θ (fun a_1602 q_1603 _ => (uniN (uniL θ h_0 a_1602) t_0 q_1603)) e_1) = _
    try simp only [iAddQ_eq, iMulQ_eq, iNegQ_eq, lenQ_eq, nthQ_eq, setQ_eq, appQ_eq, mapQ_eq, allQ_eq, anyQ_eq, dropQ_eq, takeQ_eq, revQ_eq, getDQ_eq, optLQ_eq, brecC]
    all_goals
      cases e_1 with
      | nil =>
        try dsimp only [cond_false, cond_true]
        all_goals rfl
      | cons y_1604 y_1605 =>
        try dsimp only [cond_false, cond_true]
        all_goals rfl
-- checks
noncomputable def chkV_a0 :=
  fun (tab : Tb) (fs : List Ln) (θ : Th) (e_1630 : Ln) (e_1634 : Ln) (b_1629 : Bool) (b_1633 : Bool) => ((Bool.rec (motive := fun _ => Bool) false (eqL tab fs (sbL θ e_1630) e_1634) (lnB b_1629 b_1633)) : Bool)
noncomputable def chkV (tab : Tb) (fs : List Ln) (θ : Th) (p a : AV) : Bool :=
  (Sum.rec (motive := fun _ => Bool) (fun x_1627 => (Prod.rec (motive := fun _ => Bool) (fun b_1629 e_1630 => (Sum.rec (motive := fun _ => Bool) (fun x_1631 => (Prod.rec (motive := fun _ => Bool) (fun b_1633 e_1634 => (chkV_a0 tab fs θ e_1630 e_1634 b_1629 b_1633)) x_1631)) (fun x_1632 => false) a)) x_1627)) (fun x_1628 => (Sum.rec (motive := fun _ => Bool) (fun x_1635 => (Option.rec (motive := fun _ => Bool) (Sum.rec (motive := fun _ => Bool) (fun x_1638 => false) (fun x_1639 => (Sum.rec (motive := fun _ => Bool) (fun x_1640 => (Option.rec (motive := fun _ => Bool) true (fun x_1642 => false) x_1640)) (fun x_1641 => false) x_1639)) a) (fun i_1637 => (Sum.rec (motive := fun _ => Bool) (fun x_1643 => false) (fun x_1644 => (Sum.rec (motive := fun _ => Bool) (fun x_1645 => (Option.rec (motive := fun _ => Bool) false (fun j_1647 => (Nat.beq i_1637 j_1647)) x_1645)) (fun x_1646 => false) x_1644)) a)) x_1635)) (fun x_1636 => false) x_1628)) p)
theorem chkV_def (tab : Tb) (fs : List Ln) (θ : Th) (p a : AV) : chkV tab fs θ p a = (match p, a with
  | .inl (b, e), .inl (b', e') => bif lnB b b' then eqL tab fs (sbL θ e) e' else false
  | .inr (.inl (some i)), .inr (.inl (some j)) => Nat.beq i j
  | .inr (.inl none), .inr (.inl none) => true
  | _, _ => false) := by
  show (Sum.rec (motive := fun _ => Bool) (fun x_1606 => (Prod.rec (motive := fun _ => Bool) (fun b_1608 e_1609 => (Sum.rec (motive := fun _ => Bool) (fun x_1610 => (Prod.rec (motive := fun _ => Bool) (fun b_1612 e_1613 => (Bool.rec (motive := fun _ => Bool) false (eqL tab fs (sbL θ e_1609) e_1613) (lnB b_1608 b_1612))) x_1610)) (fun x_1611 => false) a)) x_1606)) (fun x_1607 => (Sum.rec (motive := fun _ => Bool) (fun x_1614 => (Option.rec (motive := fun _ => Bool) (Sum.rec (motive := fun _ => Bool) (fun x_1617 => false) (fun x_1618 => (Sum.rec (motive := fun _ => Bool) (fun x_1619 => (Option.rec (motive := fun _ => Bool) true (fun x_1621 => false) x_1619)) (fun x_1620 => false) x_1618)) a) (fun i_1616 => (Sum.rec (motive := fun _ => Bool) (fun x_1622 => false) (fun x_1623 => (Sum.rec (motive := fun _ => Bool) (fun x_1624 => (Option.rec (motive := fun _ => Bool) false (fun j_1626 => (Nat.beq i_1616 j_1626)) x_1624)) (fun x_1625 => false) x_1623)) a)) x_1614)) (fun x_1615 => false) x_1607)) p) = _
  try simp only [iAddQ_eq, iMulQ_eq, iNegQ_eq, lenQ_eq, nthQ_eq, setQ_eq, appQ_eq, mapQ_eq, allQ_eq, anyQ_eq, dropQ_eq, takeQ_eq, revQ_eq, getDQ_eq, optLQ_eq, brecC]
  all_goals
    cases p with
    | inl y_1648 =>
      try dsimp only [cond_false, cond_true]
      all_goals
        cases y_1648 with
        | mk y_1649 y_1650 =>
          try dsimp only [cond_false, cond_true]
          all_goals
            cases a with
            | inl y_1651 =>
              try dsimp only [cond_false, cond_true]
              all_goals
                cases y_1651 with
                | mk y_1652 y_1653 =>
                  try dsimp only [cond_false, cond_true]
                  all_goals
                    cases hq_5 : (lnB y_1649 y_1652) with
                    | false =>
                      try dsimp only [cond_false, cond_true]
                      all_goals rfl
                    | true =>
                      try dsimp only [cond_false, cond_true]
                      all_goals rfl
            | inr y_1654 =>
              try dsimp only [cond_false, cond_true]
              all_goals rfl
    | inr y_1655 =>
      try dsimp only [cond_false, cond_true]
      all_goals
        cases y_1655 with
        | inl y_1656 =>
          try dsimp only [cond_false, cond_true]
          all_goals
            cases y_1656 with
            | none =>
              try dsimp only [cond_false, cond_true]
              all_goals
                cases a with
                | inl y_1657 =>
                  try dsimp only [cond_false, cond_true]
                  all_goals rfl
                | inr y_1658 =>
                  try dsimp only [cond_false, cond_true]
                  all_goals
                    cases y_1658 with
                    | inl y_1659 =>
                      try dsimp only [cond_false, cond_true]
                      all_goals
                        cases y_1659 with
                        | none =>
                          try dsimp only [cond_false, cond_true]
                          all_goals rfl
                        | some y_1660 =>
                          try dsimp only [cond_false, cond_true]
                          all_goals rfl
                    | inr y_1661 =>
                      try dsimp only [cond_false, cond_true]
                      all_goals rfl
            | some y_1662 =>
              try dsimp only [cond_false, cond_true]
              all_goals
                cases a with
                | inl y_1663 =>
                  try dsimp only [cond_false, cond_true]
                  all_goals rfl
                | inr y_1664 =>
                  try dsimp only [cond_false, cond_true]
                  all_goals
                    cases y_1664 with
                    | inl y_1665 =>
                      try dsimp only [cond_false, cond_true]
                      all_goals
                        cases y_1665 with
                        | none =>
                          try dsimp only [cond_false, cond_true]
                          all_goals rfl
                        | some y_1666 =>
                          try dsimp only [cond_false, cond_true]
                          all_goals rfl
                    | inr y_1667 =>
                      try dsimp only [cond_false, cond_true]
                      all_goals rfl
        | inr y_1668 =>
          try dsimp only [cond_false, cond_true]
          all_goals rfl
noncomputable def chkVs_a0 :=
  fun (ih : List AV → Bool) (q_1672 : List AV) (tab : Tb) (fs : List Ln) (θ : Th) (h_0 : AV) (a_1671 : AV) => ((Bool.rec (motive := fun _ => Bool) false (ih q_1672) (chkV tab fs θ h_0 a_1671)) : Bool)
noncomputable def chkVs (tab : Tb) (fs : List Ln) (θ : Th) : List AV → List AV → Bool :=
  fun e_0 e_1 => List.rec (motive := fun _ => List AV → Bool) (fun e_1 => (List.rec (motive := fun _ => Bool) true (fun x_1669 x_1670 _ => false) e_1)) (fun h_0 t_0 ih e_1 => (List.rec (motive := fun _ => Bool) false (fun a_1671 q_1672 _ => (chkVs_a0 ih q_1672 tab fs θ h_0 a_1671)) e_1)) e_0 e_1
theorem chkVs_def (tab : Tb) (fs : List Ln) (θ : Th) (e_0 : List AV) (e_1 : List AV) : chkVs tab fs θ e_0 e_1 = (match e_0, e_1 with
  | [], [] => true
  | p :: r, a :: q => bif chkV tab fs θ p a then chkVs tab fs θ r q else false
  | _, _ => false) := by
  cases e_0 with
  | nil =>
    show (List.rec (motive := fun _ => Bool) true (fun x_1673 x_1674 _ => false) e_1) = _
    try simp only [iAddQ_eq, iMulQ_eq, iNegQ_eq, lenQ_eq, nthQ_eq, setQ_eq, appQ_eq, mapQ_eq, allQ_eq, anyQ_eq, dropQ_eq, takeQ_eq, revQ_eq, getDQ_eq, optLQ_eq, brecC]
    all_goals
      cases e_1 with
      | nil =>
        try dsimp only [cond_false, cond_true]
        all_goals rfl
      | cons y_1675 y_1676 =>
        try dsimp only [cond_false, cond_true]
        all_goals rfl
  | cons h_0 t_0 =>
    show (List.rec (motive := fun _ => Bool) false (fun a_1677 q_1678 _ => (Bool.rec (motive := fun _ => Bool) false (chkVs tab fs θ t_0 q_1678) (chkV tab fs θ h_0 a_1677))) e_1) = _
    try simp only [iAddQ_eq, iMulQ_eq, iNegQ_eq, lenQ_eq, nthQ_eq, setQ_eq, appQ_eq, mapQ_eq, allQ_eq, anyQ_eq, dropQ_eq, takeQ_eq, revQ_eq, getDQ_eq, optLQ_eq, brecC]
    all_goals
      cases e_1 with
      | nil =>
        try dsimp only [cond_false, cond_true]
        all_goals rfl
      | cons y_1679 y_1680 =>
        try dsimp only [cond_false, cond_true]
        all_goals
          cases hq_3 : (chkV tab fs θ h_0 y_1679) with
          | false =>
            try dsimp only [cond_false, cond_true]
            all_goals rfl
          | true =>
            try dsimp only [cond_false, cond_true]
            all_goals rfl
noncomputable def sgLe_a0 :=
  fun (ih : List Sg → List Sg → Bool) (q_1684 : List Sg) (m_1687 : Nat) => ((Bool.rec (motive := fun _ => Bool) false (ih [] q_1684) (Nat.beq m_1687 (nat_lit 0))) : Bool)
noncomputable def sgLe_a1 :=
  fun (ih : List Sg → List Sg → Bool) (r_1682 : List Sg) (q_1694 : List Sg) (tab : Tb) (fs : List Ln) (θ : Th) (e_1691 : Ln) (e_1695 : Ln) => ((Bool.rec (motive := fun _ => Bool) false (ih r_1682 q_1694) (eqL tab fs (sbL θ e_1691) e_1695)) : Bool)
noncomputable def sgLe_a2 :=
  fun (ih : List Sg → List Sg → Bool) (e_1691 : Ln) (r_1682 : List Sg) (q_1694 : List Sg) => ((ih ((.inl e_1691) :: r_1682) q_1694) : Bool)
noncomputable def sgLe_a3 :=
  fun (ih : List Sg → List Sg → Bool) (r_1682 : List Sg) (m_1701 : Nat) (lo_1699 : Int) (hi_1700 : Int) (q_1694 : List Sg) => ((ih r_1682 ((.inr (m_1701, lo_1699, hi_1700)) :: q_1694)) : Bool)
noncomputable def sgLe_a4 :=
  fun (ih : List Sg → List Sg → Bool) (r_1682 : List Sg) (m_1701 : Nat) (lo_1699 : Int) (hi_1700 : Int) (q_1694 : List Sg) (tab : Tb) (fs : List Ln) (θ : Th) (e_1691 : Ln) => ((Bool.rec (motive := fun _ => Bool) false (sgLe_a3 ih r_1682 m_1701 lo_1699 hi_1700 q_1694) (eqL tab fs (sbL θ e_1691) (kL lo_1699))) : Bool)
noncomputable def sgLe_a5 :=
  fun (ih : List Sg → List Sg → Bool) (r_1682 : List Sg) (m_1701 : Nat) (lo_1699 : Int) (hi_1700 : Int) (q_1694 : List Sg) (tab : Tb) (fs : List Ln) (θ : Th) (e_1691 : Ln) => ((Bool.rec (motive := fun _ => Bool) false (sgLe_a4 ih r_1682 m_1701 lo_1699 hi_1700 q_1694 tab fs θ e_1691) (eqI lo_1699 hi_1700)) : Bool)
noncomputable def sgLe_a6 :=
  fun (ih : List Sg → List Sg → Bool) (r_1682 : List Sg) (m_1702 : Nat) => ((Bool.rec (motive := fun _ => Bool) false (ih r_1682 []) (Nat.beq m_1702 (nat_lit 0))) : Bool)
noncomputable def sgLe_a7 :=
  fun (ih : List Sg → List Sg → Bool) (r_1682 : List Sg) (e_1708 : Ln) (q_1707 : List Sg) => ((ih r_1682 ((.inl e_1708) :: q_1707)) : Bool)
noncomputable def sgLe_a8 :=
  fun (ih : List Sg → List Sg → Bool) (m_1710 : Nat) (lo_1704 : Int) (hi_1705 : Int) (r_1682 : List Sg) (q_1707 : List Sg) => ((ih ((.inr (m_1710, lo_1704, hi_1705)) :: r_1682) q_1707) : Bool)
noncomputable def sgLe_a9 :=
  fun (ih : List Sg → List Sg → Bool) (m_1710 : Nat) (lo_1704 : Int) (hi_1705 : Int) (r_1682 : List Sg) (q_1707 : List Sg) (tab : Tb) (fs : List Ln) (e_1708 : Ln) => ((Bool.rec (motive := fun _ => Bool) false (sgLe_a8 ih m_1710 lo_1704 hi_1705 r_1682 q_1707) (inF tab fs lo_1704 hi_1705 e_1708)) : Bool)
noncomputable def sgLe_a10 :=
  fun (hi_1714 : Int) (hi_1705 : Int) (lo_1704 : Int) (lo_1713 : Int) => ((Bool.rec (motive := fun _ => Bool) false (leI hi_1714 hi_1705) (leI lo_1704 lo_1713)) : Bool)
noncomputable def sgLe_a11 :=
  fun (hi_1714 : Int) (hi_1705 : Int) (lo_1704 : Int) (lo_1713 : Int) (m_1702 : Nat) => ((Bool.rec (motive := fun _ => Bool) (sgLe_a10 hi_1714 hi_1705 lo_1704 lo_1713) true (Nat.beq m_1702 (nat_lit 0))) : Bool)
noncomputable def sgLe_a12 :=
  fun (ih : List Sg → List Sg → Bool) (m_1702 : Nat) (m_1711 : Nat) (lo_1704 : Int) (hi_1705 : Int) (r_1682 : List Sg) (q_1707 : List Sg) => ((ih ((.inr ((Nat.sub m_1702 m_1711), lo_1704, hi_1705)) :: r_1682) q_1707) : Bool)
noncomputable def sgLe_a13 :=
  fun (ih : List Sg → List Sg → Bool) (r_1682 : List Sg) (m_1711 : Nat) (m_1702 : Nat) (lo_1713 : Int) (hi_1714 : Int) (q_1707 : List Sg) => ((ih r_1682 ((.inr ((Nat.sub m_1711 m_1702), lo_1713, hi_1714)) :: q_1707)) : Bool)
noncomputable def sgLe_a14 :=
  fun (ih : List Sg → List Sg → Bool) (r_1682 : List Sg) (m_1711 : Nat) (m_1702 : Nat) (lo_1713 : Int) (hi_1714 : Int) (q_1707 : List Sg) => ((Bool.rec (motive := fun _ => Bool) (sgLe_a13 ih r_1682 m_1711 m_1702 lo_1713 hi_1714 q_1707) (ih r_1682 q_1707) (Nat.beq m_1702 m_1711)) : Bool)
noncomputable def sgLe_a15 :=
  fun (ih : List Sg → List Sg → Bool) (m_1702 : Nat) (m_1711 : Nat) (lo_1704 : Int) (hi_1705 : Int) (r_1682 : List Sg) (q_1707 : List Sg) (lo_1713 : Int) (hi_1714 : Int) => ((Bool.rec (motive := fun _ => Bool) (sgLe_a12 ih m_1702 m_1711 lo_1704 hi_1705 r_1682 q_1707) (sgLe_a14 ih r_1682 m_1711 m_1702 lo_1713 hi_1714 q_1707) (Nat.ble m_1702 m_1711)) : Bool)
noncomputable def sgLe_a16 :=
  fun (ih : List Sg → List Sg → Bool) (m_1702 : Nat) (m_1711 : Nat) (lo_1704 : Int) (hi_1705 : Int) (r_1682 : List Sg) (q_1707 : List Sg) (lo_1713 : Int) (hi_1714 : Int) => ((Bool.rec (motive := fun _ => Bool) false (sgLe_a15 ih m_1702 m_1711 lo_1704 hi_1705 r_1682 q_1707 lo_1713 hi_1714) (Bool.rec (motive := fun _ => Bool) (sgLe_a11 hi_1714 hi_1705 lo_1704 lo_1713 m_1702) true (Nat.beq m_1711 (nat_lit 0)))) : Bool)
noncomputable def sgLe (tab : Tb) (fs : List Ln) (θ : Th) : Nat → List Sg → List Sg → Bool :=
  fun e_0 e_1 e_2 => Nat.rec (motive := fun _ => List Sg → List Sg → Bool) (fun e_1 e_2 => false) (fun t_0 ih e_1 e_2 => (List.rec (motive := fun _ => Bool) (List.rec (motive := fun _ => Bool) true (fun x_1683 q_1684 _ => (Sum.rec (motive := fun _ => Bool) (fun x_1685 => false) (fun x_1686 => (Prod.rec (motive := fun _ => Bool) (fun m_1687 x_1688 => (Prod.rec (motive := fun _ => Bool) (fun x_1689 x_1690 => (sgLe_a0 ih q_1684 m_1687)) x_1688)) x_1686)) x_1683)) e_2) (fun x_1681 r_1682 _ => (Sum.rec (motive := fun _ => Bool) (fun e_1691 => (List.rec (motive := fun _ => Bool) false (fun x_1693 q_1694 _ => (Sum.rec (motive := fun _ => Bool) (fun e_1695 => (sgLe_a1 ih r_1682 q_1694 tab fs θ e_1691 e_1695)) (fun x_1696 => (Prod.rec (motive := fun _ => Bool) (fun m_1697 x_1698 => (Prod.rec (motive := fun _ => Bool) (fun lo_1699 hi_1700 => (Nat.rec (motive := fun _ => Bool) (sgLe_a2 ih e_1691 r_1682 q_1694) (fun m_1701 _ => (sgLe_a5 ih r_1682 m_1701 lo_1699 hi_1700 q_1694 tab fs θ e_1691)) m_1697)) x_1698)) x_1696)) x_1693)) e_2)) (fun x_1692 => (Prod.rec (motive := fun _ => Bool) (fun m_1702 x_1703 => (Prod.rec (motive := fun _ => Bool) (fun lo_1704 hi_1705 => (List.rec (motive := fun _ => Bool) (sgLe_a6 ih r_1682 m_1702) (fun x_1706 q_1707 _ => (Sum.rec (motive := fun _ => Bool) (fun e_1708 => (Nat.rec (motive := fun _ => Bool) (sgLe_a7 ih r_1682 e_1708 q_1707) (fun m_1710 _ => (sgLe_a9 ih m_1710 lo_1704 hi_1705 r_1682 q_1707 tab fs e_1708)) m_1702)) (fun x_1709 => (Prod.rec (motive := fun _ => Bool) (fun m_1711 x_1712 => (Prod.rec (motive := fun _ => Bool) (fun lo_1713 hi_1714 => (sgLe_a16 ih m_1702 m_1711 lo_1704 hi_1705 r_1682 q_1707 lo_1713 hi_1714)) x_1712)) x_1709)) x_1706)) e_2)) x_1703)) x_1692)) x_1681)) e_1)) e_0 e_1 e_2
theorem sgLe_def (tab : Tb) (fs : List Ln) (θ : Th) (e_0 : Nat) (e_1 : List Sg) (e_2 : List Sg) : sgLe tab fs θ e_0 e_1 e_2 = (match e_0, e_1, e_2 with
  | 0, _, _ => false
  | n + 1, p, a => match p, a with
    | [], [] => true
    | .inl e :: r, .inl e' :: q => bif eqL tab fs (sbL θ e) e' then sgLe tab fs θ n r q else false
    | .inl e :: r, .inr (m, lo, hi) :: q => match m with
      | 0 => sgLe tab fs θ n (.inl e :: r) q
      | m + 1 => bif eqI lo hi then (bif eqL tab fs (sbL θ e) (kL lo) then sgLe tab fs θ n r (.inr (m, lo, hi) :: q) else false) else false
    | .inr (m, lo, hi) :: r, [] => bif Nat.beq m 0 then sgLe tab fs θ n r [] else false
    | [], .inr (m, _, _) :: q => bif Nat.beq m 0 then sgLe tab fs θ n [] q else false
    | .inr (m, lo, hi) :: r, .inl e' :: q => match m with
      | 0 => sgLe tab fs θ n r (.inl e' :: q)
      | m + 1 => bif inF tab fs lo hi e' then sgLe tab fs θ n (.inr (m, lo, hi) :: r) q else false
    | .inr (m, lo, hi) :: r, .inr (m', lo', hi') :: q => bif (bif Nat.beq m' 0 then true else bif Nat.beq m 0 then true else bif leI lo lo' then leI hi' hi else false) then (bif Nat.ble m m' then (bif Nat.beq m m' then sgLe tab fs θ n r q else sgLe tab fs θ n r (.inr (Nat.sub m' m, lo', hi') :: q)) else sgLe tab fs θ n (.inr (Nat.sub m m', lo, hi) :: r) q) else false
    | _, _ => false) := by
  cases e_0 with
  | zero =>
    show false = _
    try simp only [iAddQ_eq, iMulQ_eq, iNegQ_eq, lenQ_eq, nthQ_eq, setQ_eq, appQ_eq, mapQ_eq, allQ_eq, anyQ_eq, dropQ_eq, takeQ_eq, revQ_eq, getDQ_eq, optLQ_eq, brecC]
    all_goals rfl
  | succ t_0 =>
    show (List.rec (motive := fun _ => Bool) (List.rec (motive := fun _ => Bool) true (fun x_1717 q_1718 _ => (Sum.rec (motive := fun _ => Bool) (fun x_1719 => false) (fun x_1720 => (Prod.rec (motive := fun _ => Bool) (fun m_1721 x_1722 => (Prod.rec (motive := fun _ => Bool) (fun x_1723 x_1724 => (Bool.rec (motive := fun _ => Bool) false (sgLe tab fs θ t_0 [] q_1718) (Nat.beq m_1721 (nat_lit 0)))) x_1722)) x_1720)) x_1717)) e_2) (fun x_1715 r_1716 _ => (Sum.rec (motive := fun _ => Bool) (fun e_1725 => (List.rec (motive := fun _ => Bool) false (fun x_1727 q_1728 _ => (Sum.rec (motive := fun _ => Bool) (fun e_1729 => (Bool.rec (motive := fun _ => Bool) false (sgLe tab fs θ t_0 r_1716 q_1728) (eqL tab fs (sbL θ e_1725) e_1729))) (fun x_1730 => (Prod.rec (motive := fun _ => Bool) (fun m_1731 x_1732 => (Prod.rec (motive := fun _ => Bool) (fun lo_1733 hi_1734 => (Nat.rec (motive := fun _ => Bool) (sgLe tab fs θ t_0 ((.inl e_1725) :: r_1716) q_1728) (fun m_1735 _ => (Bool.rec (motive := fun _ => Bool) false (Bool.rec (motive := fun _ => Bool) false (sgLe tab fs θ t_0 r_1716 ((.inr (m_1735, lo_1733, hi_1734)) :: q_1728)) (eqL tab fs (sbL θ e_1725) (kL lo_1733))) (eqI lo_1733 hi_1734))) m_1731)) x_1732)) x_1730)) x_1727)) e_2)) (fun x_1726 => (Prod.rec (motive := fun _ => Bool) (fun m_1736 x_1737 => (Prod.rec (motive := fun _ => Bool) (fun lo_1738 hi_1739 => (List.rec (motive := fun _ => Bool) (Bool.rec (motive := fun _ => Bool) false (sgLe tab fs θ t_0 r_1716 []) (Nat.beq m_1736 (nat_lit 0))) (fun x_1740 q_1741 _ => (Sum.rec (motive := fun _ => Bool) (fun e_1742 => (Nat.rec (motive := fun _ => Bool) (sgLe tab fs θ t_0 r_1716 ((.inl e_1742) :: q_1741)) (fun m_1744 _ => (Bool.rec (motive := fun _ => Bool) false (sgLe tab fs θ t_0 ((.inr (m_1744, lo_1738, hi_1739)) :: r_1716) q_1741) (inF tab fs lo_1738 hi_1739 e_1742))) m_1736)) (fun x_1743 => (Prod.rec (motive := fun _ => Bool) (fun m_1745 x_1746 => (Prod.rec (motive := fun _ => Bool) (fun lo_1747 hi_1748 => (Bool.rec (motive := fun _ => Bool) false (Bool.rec (motive := fun _ => Bool) (sgLe tab fs θ t_0 ((.inr ((Nat.sub m_1736 m_1745), lo_1738, hi_1739)) :: r_1716) q_1741) (Bool.rec (motive := fun _ => Bool) (sgLe tab fs θ t_0 r_1716 ((.inr ((Nat.sub m_1745 m_1736), lo_1747, hi_1748)) :: q_1741)) (sgLe tab fs θ t_0 r_1716 q_1741) (Nat.beq m_1736 m_1745)) (Nat.ble m_1736 m_1745)) (Bool.rec (motive := fun _ => Bool) (Bool.rec (motive := fun _ => Bool) (Bool.rec (motive := fun _ => Bool) false (leI hi_1748 hi_1739) (leI lo_1738 lo_1747)) true (Nat.beq m_1736 (nat_lit 0))) true (Nat.beq m_1745 (nat_lit 0))))) x_1746)) x_1743)) x_1740)) e_2)) x_1737)) x_1726)) x_1715)) e_1) = _
    try simp only [iAddQ_eq, iMulQ_eq, iNegQ_eq, lenQ_eq, nthQ_eq, setQ_eq, appQ_eq, mapQ_eq, allQ_eq, anyQ_eq, dropQ_eq, takeQ_eq, revQ_eq, getDQ_eq, optLQ_eq, brecC]
    all_goals
      cases e_1 with
      | nil =>
        try dsimp only [cond_false, cond_true]
        all_goals
          cases e_2 with
          | nil =>
            try dsimp only [cond_false, cond_true]
            all_goals rfl
          | cons y_1749 y_1750 =>
            try dsimp only [cond_false, cond_true]
            all_goals
              cases y_1749 with
              | inl y_1751 =>
                try dsimp only [cond_false, cond_true]
                all_goals rfl
              | inr y_1752 =>
                try dsimp only [cond_false, cond_true]
                all_goals
                  cases y_1752 with
                  | mk y_1753 y_1754 =>
                    try dsimp only [cond_false, cond_true]
                    all_goals
                      cases y_1754 with
                      | mk y_1755 y_1756 =>
                        try dsimp only [cond_false, cond_true]
                        all_goals
                          cases hq_6 : (Nat.beq y_1753 0) with
                          | false =>
                            try dsimp only [cond_false, cond_true]
                            all_goals rfl
                          | true =>
                            try dsimp only [cond_false, cond_true]
                            all_goals rfl
      | cons y_1757 y_1758 =>
        try dsimp only [cond_false, cond_true]
        all_goals
          cases y_1757 with
          | inl y_1759 =>
            try dsimp only [cond_false, cond_true]
            all_goals
              cases e_2 with
              | nil =>
                try dsimp only [cond_false, cond_true]
                all_goals rfl
              | cons y_1760 y_1761 =>
                try dsimp only [cond_false, cond_true]
                all_goals
                  cases y_1760 with
                  | inl y_1762 =>
                    try dsimp only [cond_false, cond_true]
                    all_goals
                      cases hq_10 : (eqL tab fs ((sbL θ y_1759)) y_1762) with
                      | false =>
                        try dsimp only [cond_false, cond_true]
                        all_goals rfl
                      | true =>
                        try dsimp only [cond_false, cond_true]
                        all_goals rfl
                  | inr y_1763 =>
                    try dsimp only [cond_false, cond_true]
                    all_goals
                      cases y_1763 with
                      | mk y_1764 y_1765 =>
                        try dsimp only [cond_false, cond_true]
                        all_goals
                          cases y_1765 with
                          | mk y_1766 y_1767 =>
                            try dsimp only [cond_false, cond_true]
                            all_goals
                              cases y_1764 with
                              | zero =>
                                try dsimp only [cond_false, cond_true]
                                all_goals rfl
                              | succ y_1768 =>
                                try dsimp only [cond_false, cond_true]
                                all_goals
                                  cases hq_14 : (eqI y_1766 y_1767) with
                                  | false =>
                                    try dsimp only [cond_false, cond_true]
                                    all_goals rfl
                                  | true =>
                                    try dsimp only [cond_false, cond_true]
                                    all_goals
                                      cases hq_15 : (eqL tab fs ((sbL θ y_1759)) ((kL y_1766))) with
                                      | false =>
                                        try dsimp only [cond_false, cond_true]
                                        all_goals rfl
                                      | true =>
                                        try dsimp only [cond_false, cond_true]
                                        all_goals rfl
          | inr y_1769 =>
            try dsimp only [cond_false, cond_true]
            all_goals
              cases y_1769 with
              | mk y_1770 y_1771 =>
                try dsimp only [cond_false, cond_true]
                all_goals
                  cases y_1771 with
                  | mk y_1772 y_1773 =>
                    try dsimp only [cond_false, cond_true]
                    all_goals
                      cases e_2 with
                      | nil =>
                        try dsimp only [cond_false, cond_true]
                        all_goals
                          cases hq_19 : (Nat.beq y_1770 0) with
                          | false =>
                            try dsimp only [cond_false, cond_true]
                            all_goals rfl
                          | true =>
                            try dsimp only [cond_false, cond_true]
                            all_goals rfl
                      | cons y_1774 y_1775 =>
                        try dsimp only [cond_false, cond_true]
                        all_goals
                          cases y_1774 with
                          | inl y_1776 =>
                            try dsimp only [cond_false, cond_true]
                            all_goals
                              cases y_1770 with
                              | zero =>
                                try dsimp only [cond_false, cond_true]
                                all_goals rfl
                              | succ y_1777 =>
                                try dsimp only [cond_false, cond_true]
                                all_goals
                                  cases hq_22 : (inF tab fs y_1772 y_1773 y_1776) with
                                  | false =>
                                    try dsimp only [cond_false, cond_true]
                                    all_goals rfl
                                  | true =>
                                    try dsimp only [cond_false, cond_true]
                                    all_goals rfl
                          | inr y_1778 =>
                            try dsimp only [cond_false, cond_true]
                            all_goals
                              cases y_1778 with
                              | mk y_1779 y_1780 =>
                                try dsimp only [cond_false, cond_true]
                                all_goals
                                  cases y_1780 with
                                  | mk y_1781 y_1782 =>
                                    try dsimp only [cond_false, cond_true]
                                    all_goals
                                      cases hq_25 : ((bif (Nat.beq y_1779 0) then true else (bif (Nat.beq y_1770 0) then true else (bif (leI y_1772 y_1781) then (leI y_1782 y_1773) else false)))) with
                                      | false =>
                                        try dsimp only [cond_false, cond_true]
                                        all_goals rfl
                                      | true =>
                                        try dsimp only [cond_false, cond_true]
                                        all_goals
                                          cases hq_26 : (Nat.ble y_1770 y_1779) with
                                          | false =>
                                            try dsimp only [cond_false, cond_true]
                                            all_goals rfl
                                          | true =>
                                            try dsimp only [cond_false, cond_true]
                                            all_goals
                                              cases hq_27 : (Nat.beq y_1770 y_1779) with
                                              | false =>
                                                try dsimp only [cond_false, cond_true]
                                                all_goals rfl
                                              | true =>
                                                try dsimp only [cond_false, cond_true]
                                                all_goals rfl
noncomputable def eqO_a0 :=
  fun (ih : List (Option Nat) → Bool) (q_1790 : List (Option Nat)) (i_1785 : Nat) (j_1791 : Nat) => ((Bool.rec (motive := fun _ => Bool) false (ih q_1790) (Nat.beq i_1785 j_1791)) : Bool)
noncomputable def eqO  : List (Option Nat) → List (Option Nat) → Bool :=
  fun e_0 e_1 => List.rec (motive := fun _ => List (Option Nat) → Bool) (fun e_1 => (List.rec (motive := fun _ => Bool) true (fun x_1783 x_1784 _ => false) e_1)) (fun h_0 t_0 ih e_1 => (Option.rec (motive := fun _ => Bool) (List.rec (motive := fun _ => Bool) false (fun x_1786 q_1787 _ => (Option.rec (motive := fun _ => Bool) (ih q_1787) (fun x_1788 => false) x_1786)) e_1) (fun i_1785 => (List.rec (motive := fun _ => Bool) false (fun x_1789 q_1790 _ => (Option.rec (motive := fun _ => Bool) false (fun j_1791 => (eqO_a0 ih q_1790 i_1785 j_1791)) x_1789)) e_1)) h_0)) e_0 e_1
theorem eqO_def  (e_0 : List (Option Nat)) (e_1 : List (Option Nat)) : eqO  e_0 e_1 = (match e_0, e_1 with
  | [], [] => true
  | some i :: r, some j :: q => bif Nat.beq i j then eqO r q else false
  | none :: r, none :: q => eqO r q
  | _, _ => false) := by
  cases e_0 with
  | nil =>
    show (List.rec (motive := fun _ => Bool) true (fun x_1792 x_1793 _ => false) e_1) = _
    try simp only [iAddQ_eq, iMulQ_eq, iNegQ_eq, lenQ_eq, nthQ_eq, setQ_eq, appQ_eq, mapQ_eq, allQ_eq, anyQ_eq, dropQ_eq, takeQ_eq, revQ_eq, getDQ_eq, optLQ_eq, brecC]
    all_goals
      cases e_1 with
      | nil =>
        try dsimp only [cond_false, cond_true]
        all_goals rfl
      | cons y_1794 y_1795 =>
        try dsimp only [cond_false, cond_true]
        all_goals rfl
  | cons h_0 t_0 =>
    show (Option.rec (motive := fun _ => Bool) (List.rec (motive := fun _ => Bool) false (fun x_1797 q_1798 _ => (Option.rec (motive := fun _ => Bool) (eqO t_0 q_1798) (fun x_1799 => false) x_1797)) e_1) (fun i_1796 => (List.rec (motive := fun _ => Bool) false (fun x_1800 q_1801 _ => (Option.rec (motive := fun _ => Bool) false (fun j_1802 => (Bool.rec (motive := fun _ => Bool) false (eqO t_0 q_1801) (Nat.beq i_1796 j_1802))) x_1800)) e_1)) h_0) = _
    try simp only [iAddQ_eq, iMulQ_eq, iNegQ_eq, lenQ_eq, nthQ_eq, setQ_eq, appQ_eq, mapQ_eq, allQ_eq, anyQ_eq, dropQ_eq, takeQ_eq, revQ_eq, getDQ_eq, optLQ_eq, brecC]
    all_goals
      cases h_0 with
      | none =>
        try dsimp only [cond_false, cond_true]
        all_goals
          cases e_1 with
          | nil =>
            try dsimp only [cond_false, cond_true]
            all_goals rfl
          | cons y_1803 y_1804 =>
            try dsimp only [cond_false, cond_true]
            all_goals
              cases y_1803 with
              | none =>
                try dsimp only [cond_false, cond_true]
                all_goals rfl
              | some y_1805 =>
                try dsimp only [cond_false, cond_true]
                all_goals rfl
      | some y_1806 =>
        try dsimp only [cond_false, cond_true]
        all_goals
          cases e_1 with
          | nil =>
            try dsimp only [cond_false, cond_true]
            all_goals rfl
          | cons y_1807 y_1808 =>
            try dsimp only [cond_false, cond_true]
            all_goals
              cases y_1807 with
              | none =>
                try dsimp only [cond_false, cond_true]
                all_goals rfl
              | some y_1809 =>
                try dsimp only [cond_false, cond_true]
                all_goals
                  cases hq_7 : (Nat.beq y_1806 y_1809) with
                  | false =>
                    try dsimp only [cond_false, cond_true]
                    all_goals rfl
                  | true =>
                    try dsimp only [cond_false, cond_true]
                    all_goals rfl
noncomputable def eqN_a0 :=
  fun (ih : List Nat → Bool) (q_1813 : List Nat) (h_0 : Nat) (j_1812 : Nat) => ((Bool.rec (motive := fun _ => Bool) false (ih q_1813) (Nat.beq h_0 j_1812)) : Bool)
noncomputable def eqN  : List Nat → List Nat → Bool :=
  fun e_0 e_1 => List.rec (motive := fun _ => List Nat → Bool) (fun e_1 => (List.rec (motive := fun _ => Bool) true (fun x_1810 x_1811 _ => false) e_1)) (fun h_0 t_0 ih e_1 => (List.rec (motive := fun _ => Bool) false (fun j_1812 q_1813 _ => (eqN_a0 ih q_1813 h_0 j_1812)) e_1)) e_0 e_1
theorem eqN_def  (e_0 : List Nat) (e_1 : List Nat) : eqN  e_0 e_1 = (match e_0, e_1 with
  | [], [] => true
  | i :: r, j :: q => bif Nat.beq i j then eqN r q else false
  | _, _ => false) := by
  cases e_0 with
  | nil =>
    show (List.rec (motive := fun _ => Bool) true (fun x_1814 x_1815 _ => false) e_1) = _
    try simp only [iAddQ_eq, iMulQ_eq, iNegQ_eq, lenQ_eq, nthQ_eq, setQ_eq, appQ_eq, mapQ_eq, allQ_eq, anyQ_eq, dropQ_eq, takeQ_eq, revQ_eq, getDQ_eq, optLQ_eq, brecC]
    all_goals
      cases e_1 with
      | nil =>
        try dsimp only [cond_false, cond_true]
        all_goals rfl
      | cons y_1816 y_1817 =>
        try dsimp only [cond_false, cond_true]
        all_goals rfl
  | cons h_0 t_0 =>
    show (List.rec (motive := fun _ => Bool) false (fun j_1818 q_1819 _ => (Bool.rec (motive := fun _ => Bool) false (eqN t_0 q_1819) (Nat.beq h_0 j_1818))) e_1) = _
    try simp only [iAddQ_eq, iMulQ_eq, iNegQ_eq, lenQ_eq, nthQ_eq, setQ_eq, appQ_eq, mapQ_eq, allQ_eq, anyQ_eq, dropQ_eq, takeQ_eq, revQ_eq, getDQ_eq, optLQ_eq, brecC]
    all_goals
      cases e_1 with
      | nil =>
        try dsimp only [cond_false, cond_true]
        all_goals rfl
      | cons y_1820 y_1821 =>
        try dsimp only [cond_false, cond_true]
        all_goals
          cases hq_3 : (Nat.beq h_0 y_1820) with
          | false =>
            try dsimp only [cond_false, cond_true]
            all_goals rfl
          | true =>
            try dsimp only [cond_false, cond_true]
            all_goals rfl
noncomputable def conLe (tab : Tb) (fs : List Ln) (θ : Th) (p a : List Sg) : Bool :=
  (List.rec (motive := fun _ => Bool) false (fun x_1834 x_1835 _ => (Sum.rec (motive := fun _ => Bool) (fun e_1836 => (List.rec (motive := fun _ => Bool) (List.rec (motive := fun _ => Bool) false (fun x_1840 x_1841 _ => (Sum.rec (motive := fun _ => Bool) (fun e_1842 => (List.rec (motive := fun _ => Bool) (eqL tab fs (sbL θ e_1836) e_1842) (fun x_1844 x_1845 _ => false) x_1841)) (fun x_1843 => false) x_1840)) a) (fun x_1838 x_1839 _ => false) x_1835)) (fun x_1837 => false) x_1834)) p)
theorem conLe_def (tab : Tb) (fs : List Ln) (θ : Th) (p a : List Sg) : conLe tab fs θ p a = (match p, a with
  | [.inl e], [.inl e'] => eqL tab fs (sbL θ e) e'
  | _, _ => false) := by
  show (List.rec (motive := fun _ => Bool) false (fun x_1822 x_1823 _ => (Sum.rec (motive := fun _ => Bool) (fun e_1824 => (List.rec (motive := fun _ => Bool) (List.rec (motive := fun _ => Bool) false (fun x_1828 x_1829 _ => (Sum.rec (motive := fun _ => Bool) (fun e_1830 => (List.rec (motive := fun _ => Bool) (eqL tab fs (sbL θ e_1824) e_1830) (fun x_1832 x_1833 _ => false) x_1829)) (fun x_1831 => false) x_1828)) a) (fun x_1826 x_1827 _ => false) x_1823)) (fun x_1825 => false) x_1822)) p) = _
  all_goals
    cases p with
    | nil =>
      try dsimp only [cond_false, cond_true]
      all_goals rfl
    | cons y_1846 y_1847 =>
      try dsimp only [cond_false, cond_true]
      all_goals
        cases y_1846 with
        | inl y_1848 =>
          try dsimp only [cond_false, cond_true]
          all_goals
            cases y_1847 with
            | nil =>
              try dsimp only [cond_false, cond_true]
              all_goals
                cases a with
                | nil =>
                  try dsimp only [cond_false, cond_true]
                  all_goals rfl
                | cons y_1849 y_1850 =>
                  try dsimp only [cond_false, cond_true]
                  all_goals
                    cases y_1849 with
                    | inl y_1851 =>
                      try dsimp only [cond_false, cond_true]
                      all_goals
                        cases y_1850 with
                        | nil =>
                          try dsimp only [cond_false, cond_true]
                          all_goals rfl
                        | cons y_1852 y_1853 =>
                          try dsimp only [cond_false, cond_true]
                          all_goals rfl
                    | inr y_1854 =>
                      try dsimp only [cond_false, cond_true]
                      all_goals rfl
            | cons y_1855 y_1856 =>
              try dsimp only [cond_false, cond_true]
              all_goals rfl
        | inr y_1857 =>
          try dsimp only [cond_false, cond_true]
          all_goals rfl
noncomputable def chkC_a0 :=
  fun (tab : Tb) (fs : List Ln) (θ : Th) (l_1897 : List AV) (l_1901 : List AV) (c_1896 : Nat) (c_1900 : Nat) => ((Bool.rec (motive := fun _ => Bool) false (chkVs tab fs θ l_1897 l_1901) (Nat.beq c_1896 c_1900)) : Bool)
noncomputable def chkC_a1 :=
  fun (tab : Tb) (fs : List Ln) (θ : Th) (s_1904 : List Sg) (s_1910 : List Sg) => ((sgLe tab fs θ (nat_lit 600) s_1904 s_1910) : Bool)
noncomputable def chkC_a2 :=
  fun (tab : Tb) (fs : List Ln) (θ : Th) (s_1904 : List Sg) (s_1910 : List Sg) (k_1902 : Nat) => ((Bool.rec (motive := fun _ => Bool) (conLe tab fs θ s_1904 s_1910) (chkC_a1 tab fs θ s_1904 s_1910) (Nat.blt k_1902 (nat_lit 100))) : Bool)
noncomputable def chkC_a3 :=
  fun (tab : Tb) (fs : List Ln) (θ : Th) (s_1904 : List Sg) (s_1910 : List Sg) (k_1902 : Nat) (k_1908 : Nat) => ((Bool.rec (motive := fun _ => Bool) false (chkC_a2 tab fs θ s_1904 s_1910 k_1902) (Nat.beq k_1902 k_1908)) : Bool)
noncomputable def chkC_a4 :=
  fun (m_1920 : Nat) (m_1912 : Nat) => ((Nat.beq m_1920 (Nat.add zB m_1912)) : Bool)
noncomputable def chkC_a5 :=
  fun (m_1920 : Nat) (m_1912 : Nat) => ((Bool.rec (motive := fun _ => Bool) false (chkC_a4 m_1920 m_1912) (Nat.blt m_1912 zB)) : Bool)
noncomputable def chkC_a6 :=
  fun (m_1920 : Nat) (m_1912 : Nat) => ((Bool.rec (motive := fun _ => Bool) (chkC_a5 m_1920 m_1912) true (Nat.beq m_1912 m_1920)) : Bool)
noncomputable def chkC_a7 :=
  fun (m_1920 : Nat) (m_1912 : Nat) (k_1902 : Nat) (k_1916 : Nat) => ((Bool.rec (motive := fun _ => Bool) false (chkC_a6 m_1920 m_1912) (Nat.beq k_1902 k_1916)) : Bool)
noncomputable def chkC_a8 :=
  fun (l_1913 : List (Option Nat)) (l_1929 : List (Option Nat)) (k_1902 : Nat) (k_1924 : Nat) => ((Bool.rec (motive := fun _ => Bool) false (eqO l_1913 l_1929) (Nat.beq k_1902 k_1924)) : Bool)
noncomputable def chkC (tab : Tb) (fs : List Ln) (θ : Th) (p a : AC) : Bool :=
  (Sum.rec (motive := fun _ => Bool) (fun x_1894 => (Prod.rec (motive := fun _ => Bool) (fun c_1896 l_1897 => (Sum.rec (motive := fun _ => Bool) (fun x_1898 => (Prod.rec (motive := fun _ => Bool) (fun c_1900 l_1901 => (chkC_a0 tab fs θ l_1897 l_1901 c_1896 c_1900)) x_1898)) (fun x_1899 => false) a)) x_1894)) (fun x_1895 => (Prod.rec (motive := fun _ => Bool) (fun k_1902 x_1903 => (Sum.rec (motive := fun _ => Bool) (fun s_1904 => (Sum.rec (motive := fun _ => Bool) (fun x_1906 => false) (fun x_1907 => (Prod.rec (motive := fun _ => Bool) (fun k_1908 x_1909 => (Sum.rec (motive := fun _ => Bool) (fun s_1910 => (chkC_a3 tab fs θ s_1904 s_1910 k_1902 k_1908)) (fun x_1911 => false) x_1909)) x_1907)) a)) (fun x_1905 => (Sum.rec (motive := fun _ => Bool) (fun m_1912 => (Sum.rec (motive := fun _ => Bool) (fun x_1914 => false) (fun x_1915 => (Prod.rec (motive := fun _ => Bool) (fun k_1916 x_1917 => (Sum.rec (motive := fun _ => Bool) (fun x_1918 => false) (fun x_1919 => (Sum.rec (motive := fun _ => Bool) (fun m_1920 => (chkC_a7 m_1920 m_1912 k_1902 k_1916)) (fun x_1921 => false) x_1919)) x_1917)) x_1915)) a)) (fun l_1913 => (Sum.rec (motive := fun _ => Bool) (fun x_1922 => false) (fun x_1923 => (Prod.rec (motive := fun _ => Bool) (fun k_1924 x_1925 => (Sum.rec (motive := fun _ => Bool) (fun x_1926 => false) (fun x_1927 => (Sum.rec (motive := fun _ => Bool) (fun x_1928 => false) (fun l_1929 => (chkC_a8 l_1913 l_1929 k_1902 k_1924)) x_1927)) x_1925)) x_1923)) a)) x_1905)) x_1903)) x_1895)) p)
theorem chkC_def (tab : Tb) (fs : List Ln) (θ : Th) (p a : AC) : chkC tab fs θ p a = (match p, a with
  | .inl (c, l), .inl (c', l') => bif Nat.beq c c' then chkVs tab fs θ l l' else false
  | .inr (k, .inl s), .inr (k', .inl s') => bif Nat.beq k k' then (bif Nat.blt k 100 then sgLe tab fs θ 600 s s' else conLe tab fs θ s s') else false
  | .inr (k, .inr (.inl m)), .inr (k', .inr (.inl m')) => bif Nat.beq k k' then (bif Nat.beq m m' then true else bif Nat.blt m zB then Nat.beq m' (Nat.add zB m) else false) else false
  | .inr (k, .inr (.inr l)), .inr (k', .inr (.inr l')) => bif Nat.beq k k' then eqO l l' else false
  | _, _ => false) := by
  show (Sum.rec (motive := fun _ => Bool) (fun x_1858 => (Prod.rec (motive := fun _ => Bool) (fun c_1860 l_1861 => (Sum.rec (motive := fun _ => Bool) (fun x_1862 => (Prod.rec (motive := fun _ => Bool) (fun c_1864 l_1865 => (Bool.rec (motive := fun _ => Bool) false (chkVs tab fs θ l_1861 l_1865) (Nat.beq c_1860 c_1864))) x_1862)) (fun x_1863 => false) a)) x_1858)) (fun x_1859 => (Prod.rec (motive := fun _ => Bool) (fun k_1866 x_1867 => (Sum.rec (motive := fun _ => Bool) (fun s_1868 => (Sum.rec (motive := fun _ => Bool) (fun x_1870 => false) (fun x_1871 => (Prod.rec (motive := fun _ => Bool) (fun k_1872 x_1873 => (Sum.rec (motive := fun _ => Bool) (fun s_1874 => (Bool.rec (motive := fun _ => Bool) false (Bool.rec (motive := fun _ => Bool) (conLe tab fs θ s_1868 s_1874) (sgLe tab fs θ (nat_lit 600) s_1868 s_1874) (Nat.blt k_1866 (nat_lit 100))) (Nat.beq k_1866 k_1872))) (fun x_1875 => false) x_1873)) x_1871)) a)) (fun x_1869 => (Sum.rec (motive := fun _ => Bool) (fun m_1876 => (Sum.rec (motive := fun _ => Bool) (fun x_1878 => false) (fun x_1879 => (Prod.rec (motive := fun _ => Bool) (fun k_1880 x_1881 => (Sum.rec (motive := fun _ => Bool) (fun x_1882 => false) (fun x_1883 => (Sum.rec (motive := fun _ => Bool) (fun m_1884 => (Bool.rec (motive := fun _ => Bool) false (Bool.rec (motive := fun _ => Bool) (Bool.rec (motive := fun _ => Bool) false (Nat.beq m_1884 (Nat.add zB m_1876)) (Nat.blt m_1876 zB)) true (Nat.beq m_1876 m_1884)) (Nat.beq k_1866 k_1880))) (fun x_1885 => false) x_1883)) x_1881)) x_1879)) a)) (fun l_1877 => (Sum.rec (motive := fun _ => Bool) (fun x_1886 => false) (fun x_1887 => (Prod.rec (motive := fun _ => Bool) (fun k_1888 x_1889 => (Sum.rec (motive := fun _ => Bool) (fun x_1890 => false) (fun x_1891 => (Sum.rec (motive := fun _ => Bool) (fun x_1892 => false) (fun l_1893 => (Bool.rec (motive := fun _ => Bool) false (eqO l_1877 l_1893) (Nat.beq k_1866 k_1888))) x_1891)) x_1889)) x_1887)) a)) x_1869)) x_1867)) x_1859)) p) = _
  try simp only [iAddQ_eq, iMulQ_eq, iNegQ_eq, lenQ_eq, nthQ_eq, setQ_eq, appQ_eq, mapQ_eq, allQ_eq, anyQ_eq, dropQ_eq, takeQ_eq, revQ_eq, getDQ_eq, optLQ_eq, brecC]
  all_goals
    cases p with
    | inl y_1930 =>
      try dsimp only [cond_false, cond_true]
      all_goals
        cases y_1930 with
        | mk y_1931 y_1932 =>
          try dsimp only [cond_false, cond_true]
          all_goals
            cases a with
            | inl y_1933 =>
              try dsimp only [cond_false, cond_true]
              all_goals
                cases y_1933 with
                | mk y_1934 y_1935 =>
                  try dsimp only [cond_false, cond_true]
                  all_goals
                    cases hq_5 : (Nat.beq y_1931 y_1934) with
                    | false =>
                      try dsimp only [cond_false, cond_true]
                      all_goals rfl
                    | true =>
                      try dsimp only [cond_false, cond_true]
                      all_goals rfl
            | inr y_1936 =>
              try dsimp only [cond_false, cond_true]
              all_goals rfl
    | inr y_1937 =>
      try dsimp only [cond_false, cond_true]
      all_goals
        cases y_1937 with
        | mk y_1938 y_1939 =>
          try dsimp only [cond_false, cond_true]
          all_goals
            cases y_1939 with
            | inl y_1940 =>
              try dsimp only [cond_false, cond_true]
              all_goals
                cases a with
                | inl y_1941 =>
                  try dsimp only [cond_false, cond_true]
                  all_goals rfl
                | inr y_1942 =>
                  try dsimp only [cond_false, cond_true]
                  all_goals
                    cases y_1942 with
                    | mk y_1943 y_1944 =>
                      try dsimp only [cond_false, cond_true]
                      all_goals
                        cases y_1944 with
                        | inl y_1945 =>
                          try dsimp only [cond_false, cond_true]
                          all_goals
                            cases hq_11 : (Nat.beq y_1938 y_1943) with
                            | false =>
                              try dsimp only [cond_false, cond_true]
                              all_goals rfl
                            | true =>
                              try dsimp only [cond_false, cond_true]
                              all_goals
                                cases hq_12 : (Nat.blt y_1938 100) with
                                | false =>
                                  try dsimp only [cond_false, cond_true]
                                  all_goals rfl
                                | true =>
                                  try dsimp only [cond_false, cond_true]
                                  all_goals rfl
                        | inr y_1946 =>
                          try dsimp only [cond_false, cond_true]
                          all_goals rfl
            | inr y_1947 =>
              try dsimp only [cond_false, cond_true]
              all_goals
                cases y_1947 with
                | inl y_1948 =>
                  try dsimp only [cond_false, cond_true]
                  all_goals
                    cases a with
                    | inl y_1949 =>
                      try dsimp only [cond_false, cond_true]
                      all_goals rfl
                    | inr y_1950 =>
                      try dsimp only [cond_false, cond_true]
                      all_goals
                        cases y_1950 with
                        | mk y_1951 y_1952 =>
                          try dsimp only [cond_false, cond_true]
                          all_goals
                            cases y_1952 with
                            | inl y_1953 =>
                              try dsimp only [cond_false, cond_true]
                              all_goals rfl
                            | inr y_1954 =>
                              try dsimp only [cond_false, cond_true]
                              all_goals
                                cases y_1954 with
                                | inl y_1955 =>
                                  try dsimp only [cond_false, cond_true]
                                  all_goals
                                    cases hq_18 : (Nat.beq y_1938 y_1951) with
                                    | false =>
                                      try dsimp only [cond_false, cond_true]
                                      all_goals rfl
                                    | true =>
                                      try dsimp only [cond_false, cond_true]
                                      all_goals
                                        cases hq_19 : (Nat.beq y_1948 y_1955) with
                                        | false =>
                                          try dsimp only [cond_false, cond_true]
                                          all_goals
                                            cases hq_20 : (Nat.blt y_1948 zB) with
                                            | false =>
                                              try dsimp only [cond_false, cond_true]
                                              all_goals rfl
                                            | true =>
                                              try dsimp only [cond_false, cond_true]
                                              all_goals rfl
                                        | true =>
                                          try dsimp only [cond_false, cond_true]
                                          all_goals rfl
                                | inr y_1956 =>
                                  try dsimp only [cond_false, cond_true]
                                  all_goals rfl
                | inr y_1957 =>
                  try dsimp only [cond_false, cond_true]
                  all_goals
                    cases a with
                    | inl y_1958 =>
                      try dsimp only [cond_false, cond_true]
                      all_goals rfl
                    | inr y_1959 =>
                      try dsimp only [cond_false, cond_true]
                      all_goals
                        cases y_1959 with
                        | mk y_1960 y_1961 =>
                          try dsimp only [cond_false, cond_true]
                          all_goals
                            cases y_1961 with
                            | inl y_1962 =>
                              try dsimp only [cond_false, cond_true]
                              all_goals rfl
                            | inr y_1963 =>
                              try dsimp only [cond_false, cond_true]
                              all_goals
                                cases y_1963 with
                                | inl y_1964 =>
                                  try dsimp only [cond_false, cond_true]
                                  all_goals rfl
                                | inr y_1965 =>
                                  try dsimp only [cond_false, cond_true]
                                  all_goals
                                    cases hq_25 : (Nat.beq y_1938 y_1960) with
                                    | false =>
                                      try dsimp only [cond_false, cond_true]
                                      all_goals rfl
                                    | true =>
                                      try dsimp only [cond_false, cond_true]
                                      all_goals rfl
noncomputable def chkH_a0 :=
  fun (ih : AH → Bool) (q_1969 : List AC) (tab : Tb) (fs : List Ln) (θ : Th) (h_0 : AC) (a_1968 : AC) => ((Bool.rec (motive := fun _ => Bool) false (ih q_1969) (chkC tab fs θ h_0 a_1968)) : Bool)
noncomputable def chkH (tab : Tb) (fs : List Ln) (θ : Th) : AH → AH → Bool :=
  fun e_0 e_1 => List.rec (motive := fun _ => AH → Bool) (fun e_1 => (List.rec (motive := fun _ => Bool) true (fun x_1966 x_1967 _ => false) e_1)) (fun h_0 t_0 ih e_1 => (List.rec (motive := fun _ => Bool) false (fun a_1968 q_1969 _ => (chkH_a0 ih q_1969 tab fs θ h_0 a_1968)) e_1)) e_0 e_1
theorem chkH_def (tab : Tb) (fs : List Ln) (θ : Th) (e_0 : AH) (e_1 : AH) : chkH tab fs θ e_0 e_1 = (match e_0, e_1 with
  | [], [] => true
  | p :: r, a :: q => bif chkC tab fs θ p a then chkH tab fs θ r q else false
  | _, _ => false) := by
  cases e_0 with
  | nil =>
    show (List.rec (motive := fun _ => Bool) true (fun x_1970 x_1971 _ => false) e_1) = _
    try simp only [iAddQ_eq, iMulQ_eq, iNegQ_eq, lenQ_eq, nthQ_eq, setQ_eq, appQ_eq, mapQ_eq, allQ_eq, anyQ_eq, dropQ_eq, takeQ_eq, revQ_eq, getDQ_eq, optLQ_eq, brecC]
    all_goals
      cases e_1 with
      | nil =>
        try dsimp only [cond_false, cond_true]
        all_goals rfl
      | cons y_1972 y_1973 =>
        try dsimp only [cond_false, cond_true]
        all_goals rfl
  | cons h_0 t_0 =>
    show (List.rec (motive := fun _ => Bool) false (fun a_1974 q_1975 _ => (Bool.rec (motive := fun _ => Bool) false (chkH tab fs θ t_0 q_1975) (chkC tab fs θ h_0 a_1974))) e_1) = _
    try simp only [iAddQ_eq, iMulQ_eq, iNegQ_eq, lenQ_eq, nthQ_eq, setQ_eq, appQ_eq, mapQ_eq, allQ_eq, anyQ_eq, dropQ_eq, takeQ_eq, revQ_eq, getDQ_eq, optLQ_eq, brecC]
    all_goals
      cases e_1 with
      | nil =>
        try dsimp only [cond_false, cond_true]
        all_goals rfl
      | cons y_1976 y_1977 =>
        try dsimp only [cond_false, cond_true]
        all_goals
          cases hq_3 : (chkC tab fs θ h_0 y_1976) with
          | false =>
            try dsimp only [cond_false, cond_true]
            all_goals rfl
          | true =>
            try dsimp only [cond_false, cond_true]
            all_goals rfl
noncomputable def uniP1_a0 :=
  fun (tab : Tb) (fs : List Ln) (θ : Un) (p : PD) (h_0 : PD) => ((Bool.rec (motive := fun _ => Bool) false (okNums tab fs θ p.2.2 h_0.2.2) (eqN p.2.1 h_0.2.1)) : Bool)
noncomputable def uniP1_a1 :=
  fun (ih : Un) (θ : Un) (p : PD) (h_0 : PD) (tab : Tb) (fs : List Ln) => ((Bool.rec (motive := fun _ => Un) (ih) (uniN θ p.2.2 h_0.2.2) (Bool.rec (motive := fun _ => Bool) false (uniP1_a0 tab fs θ p h_0) (Nat.beq p.1 h_0.1))) : Un)
noncomputable def uniP1 (tab : Tb) (fs : List Ln) (θ : Un) (p : PD) : List PD → Un :=
  fun e_0 => List.rec (motive := fun _ => Un) θ (fun h_0 t_0 ih => (uniP1_a1 ih θ p h_0 tab fs)) e_0 
theorem uniP1_def (tab : Tb) (fs : List Ln) (θ : Un) (p : PD) (e_0 : List PD) : uniP1 tab fs θ p e_0 = (match e_0 with
  | [] => θ
  | q :: r => bif (bif Nat.beq p.1 q.1 then (bif eqN p.2.1 q.2.1 then okNums tab fs θ p.2.2 q.2.2 else false) else false) then uniN θ p.2.2 q.2.2 else uniP1 tab fs θ p r) := by
  cases e_0 with
  | nil =>
    show θ = _
    try simp only [iAddQ_eq, iMulQ_eq, iNegQ_eq, lenQ_eq, nthQ_eq, setQ_eq, appQ_eq, mapQ_eq, allQ_eq, anyQ_eq, dropQ_eq, takeQ_eq, revQ_eq, getDQ_eq, optLQ_eq, brecC]
    all_goals rfl
  | cons h_0 t_0 =>
    show (Bool.rec (motive := fun _ => Un) (uniP1 tab fs θ p t_0) (uniN θ p.2.2 h_0.2.2) (Bool.rec (motive := fun _ => Bool) false (Bool.rec (motive := fun _ => Bool) false (okNums tab fs θ p.2.2 h_0.2.2) (eqN p.2.1 h_0.2.1)) (Nat.beq p.1 h_0.1))) = _
    try simp only [iAddQ_eq, iMulQ_eq, iNegQ_eq, lenQ_eq, nthQ_eq, setQ_eq, appQ_eq, mapQ_eq, allQ_eq, anyQ_eq, dropQ_eq, takeQ_eq, revQ_eq, getDQ_eq, optLQ_eq, brecC]
    all_goals
      cases hq_1 : ((bif (Nat.beq p.1 h_0.1) then ((bif (eqN p.2.1 h_0.2.1) then (okNums tab fs θ p.2.2 h_0.2.2) else false)) else false)) with
      | false =>
        try dsimp only [cond_false, cond_true]
        all_goals rfl
      | true =>
        try dsimp only [cond_false, cond_true]
        all_goals rfl
noncomputable def uniP (tab : Tb) (fs : List Ln) (a : List PD) : Un → List PD → Un :=
  fun θ e_0 => List.rec (motive := fun _ => Un → Un) (fun θ => θ) (fun h_0 t_0 ih θ => (Prod.rec (motive := fun _ => Un) (fun k_1978 x_1979 => (Prod.rec (motive := fun _ => Un) (fun l_1980 x_1981 => (List.rec (motive := fun _ => Un) (ih θ) (fun x_1982 x_1983 _ => (ih (uniP1 tab fs θ h_0 a))) x_1981)) x_1979)) h_0)) e_0 θ
theorem uniP_def (tab : Tb) (fs : List Ln) (a : List PD) (θ : Un) (e_0 : List PD) : uniP tab fs a θ e_0 = (match e_0 with
  | [] => θ
  | (k, l, []) :: r => uniP tab fs a θ r
  | p :: r => uniP tab fs a (uniP1 tab fs θ p a) r) := by
  cases e_0 with
  | nil =>
    show θ = _
    try simp only [iAddQ_eq, iMulQ_eq, iNegQ_eq, lenQ_eq, nthQ_eq, setQ_eq, appQ_eq, mapQ_eq, allQ_eq, anyQ_eq, dropQ_eq, takeQ_eq, revQ_eq, getDQ_eq, optLQ_eq, brecC]
    all_goals rfl
  | cons h_0 t_0 =>
    show (Prod.rec (motive := fun _ => Un) (fun k_1984 x_1985 => (Prod.rec (motive := fun _ => Un) (fun l_1986 x_1987 => (List.rec (motive := fun _ => Un) (uniP tab fs a θ t_0) (fun x_1988 x_1989 _ => (uniP tab fs a (uniP1 tab fs θ h_0 a) t_0)) x_1987)) x_1985)) h_0) = _
    try simp only [iAddQ_eq, iMulQ_eq, iNegQ_eq, lenQ_eq, nthQ_eq, setQ_eq, appQ_eq, mapQ_eq, allQ_eq, anyQ_eq, dropQ_eq, takeQ_eq, revQ_eq, getDQ_eq, optLQ_eq, brecC]
    all_goals
      cases h_0 with
      | mk y_1990 y_1991 =>
        try dsimp only [cond_false, cond_true]
        all_goals
          cases y_1991 with
          | mk y_1992 y_1993 =>
            try dsimp only [cond_false, cond_true]
            all_goals
              cases y_1993 with
              | nil =>
                try dsimp only [cond_false, cond_true]
                all_goals rfl
              | cons y_1994 y_1995 =>
                try dsimp only [cond_false, cond_true]
                all_goals rfl
noncomputable def chkN_a0 :=
  fun (ih : List Ln → Bool) (q_1999 : List Ln) (tab : Tb) (fs : List Ln) (θ : Th) (h_0 : Ln) (a_1998 : Ln) => ((Bool.rec (motive := fun _ => Bool) false (ih q_1999) (eqL tab fs (sbL θ h_0) a_1998)) : Bool)
noncomputable def chkN (tab : Tb) (fs : List Ln) (θ : Th) : List Ln → List Ln → Bool :=
  fun e_0 e_1 => List.rec (motive := fun _ => List Ln → Bool) (fun e_1 => (List.rec (motive := fun _ => Bool) true (fun x_1996 x_1997 _ => false) e_1)) (fun h_0 t_0 ih e_1 => (List.rec (motive := fun _ => Bool) false (fun a_1998 q_1999 _ => (chkN_a0 ih q_1999 tab fs θ h_0 a_1998)) e_1)) e_0 e_1
theorem chkN_def (tab : Tb) (fs : List Ln) (θ : Th) (e_0 : List Ln) (e_1 : List Ln) : chkN tab fs θ e_0 e_1 = (match e_0, e_1 with
  | [], [] => true
  | p :: r, a :: q => bif eqL tab fs (sbL θ p) a then chkN tab fs θ r q else false
  | _, _ => false) := by
  cases e_0 with
  | nil =>
    show (List.rec (motive := fun _ => Bool) true (fun x_2000 x_2001 _ => false) e_1) = _
    try simp only [iAddQ_eq, iMulQ_eq, iNegQ_eq, lenQ_eq, nthQ_eq, setQ_eq, appQ_eq, mapQ_eq, allQ_eq, anyQ_eq, dropQ_eq, takeQ_eq, revQ_eq, getDQ_eq, optLQ_eq, brecC]
    all_goals
      cases e_1 with
      | nil =>
        try dsimp only [cond_false, cond_true]
        all_goals rfl
      | cons y_2002 y_2003 =>
        try dsimp only [cond_false, cond_true]
        all_goals rfl
  | cons h_0 t_0 =>
    show (List.rec (motive := fun _ => Bool) false (fun a_2004 q_2005 _ => (Bool.rec (motive := fun _ => Bool) false (chkN tab fs θ t_0 q_2005) (eqL tab fs (sbL θ h_0) a_2004))) e_1) = _
    try simp only [iAddQ_eq, iMulQ_eq, iNegQ_eq, lenQ_eq, nthQ_eq, setQ_eq, appQ_eq, mapQ_eq, allQ_eq, anyQ_eq, dropQ_eq, takeQ_eq, revQ_eq, getDQ_eq, optLQ_eq, brecC]
    all_goals
      cases e_1 with
      | nil =>
        try dsimp only [cond_false, cond_true]
        all_goals rfl
      | cons y_2006 y_2007 =>
        try dsimp only [cond_false, cond_true]
        all_goals
          cases hq_3 : (eqL tab fs ((sbL θ h_0)) y_2006) with
          | false =>
            try dsimp only [cond_false, cond_true]
            all_goals rfl
          | true =>
            try dsimp only [cond_false, cond_true]
            all_goals rfl
noncomputable def hasP_a0 :=
  fun (tab : Tb) (fs : List Ln) (θ : Th) (p : PD) (h_0 : PD) => ((Bool.rec (motive := fun _ => Bool) false (chkN tab fs θ p.2.2 h_0.2.2) (eqN p.2.1 h_0.2.1)) : Bool)
noncomputable def hasP_a1 :=
  fun (ih : Bool) (tab : Tb) (fs : List Ln) (θ : Th) (p : PD) (h_0 : PD) => ((Bool.rec (motive := fun _ => Bool) (ih) true (Bool.rec (motive := fun _ => Bool) false (hasP_a0 tab fs θ p h_0) (Nat.beq p.1 h_0.1))) : Bool)
noncomputable def hasP (tab : Tb) (fs : List Ln) (θ : Th) (p : PD) : List PD → Bool :=
  fun e_0 => List.rec (motive := fun _ => Bool) false (fun h_0 t_0 ih => (hasP_a1 ih tab fs θ p h_0)) e_0 
theorem hasP_def (tab : Tb) (fs : List Ln) (θ : Th) (p : PD) (e_0 : List PD) : hasP tab fs θ p e_0 = (match e_0 with
  | [] => false
  | q :: r => bif (bif Nat.beq p.1 q.1 then (bif eqN p.2.1 q.2.1 then chkN tab fs θ p.2.2 q.2.2 else false) else false) then true else hasP tab fs θ p r) := by
  cases e_0 with
  | nil =>
    show false = _
    try simp only [iAddQ_eq, iMulQ_eq, iNegQ_eq, lenQ_eq, nthQ_eq, setQ_eq, appQ_eq, mapQ_eq, allQ_eq, anyQ_eq, dropQ_eq, takeQ_eq, revQ_eq, getDQ_eq, optLQ_eq, brecC]
    all_goals rfl
  | cons h_0 t_0 =>
    show (Bool.rec (motive := fun _ => Bool) (hasP tab fs θ p t_0) true (Bool.rec (motive := fun _ => Bool) false (Bool.rec (motive := fun _ => Bool) false (chkN tab fs θ p.2.2 h_0.2.2) (eqN p.2.1 h_0.2.1)) (Nat.beq p.1 h_0.1))) = _
    try simp only [iAddQ_eq, iMulQ_eq, iNegQ_eq, lenQ_eq, nthQ_eq, setQ_eq, appQ_eq, mapQ_eq, allQ_eq, anyQ_eq, dropQ_eq, takeQ_eq, revQ_eq, getDQ_eq, optLQ_eq, brecC]
    all_goals
      cases hq_1 : ((bif (Nat.beq p.1 h_0.1) then ((bif (eqN p.2.1 h_0.2.1) then (chkN tab fs θ p.2.2 h_0.2.2) else false)) else false)) with
      | false =>
        try dsimp only [cond_false, cond_true]
        all_goals rfl
      | true =>
        try dsimp only [cond_false, cond_true]
        all_goals rfl
noncomputable def chkP_a0 :=
  fun (ih : Bool) (tab : Tb) (fs : List Ln) (θ : Th) (h_0 : PD) (a : List PD) => ((Bool.rec (motive := fun _ => Bool) false (ih) (hasP tab fs θ h_0 a)) : Bool)
noncomputable def chkP (tab : Tb) (fs : List Ln) (θ : Th) (a : List PD) : List PD → Bool :=
  fun e_0 => List.rec (motive := fun _ => Bool) true (fun h_0 t_0 ih => (chkP_a0 ih tab fs θ h_0 a)) e_0 
theorem chkP_def (tab : Tb) (fs : List Ln) (θ : Th) (a : List PD) (e_0 : List PD) : chkP tab fs θ a e_0 = (match e_0 with
  | [] => true
  | p :: r => bif hasP tab fs θ p a then chkP tab fs θ a r else false) := by
  cases e_0 with
  | nil =>
    show true = _
    try simp only [iAddQ_eq, iMulQ_eq, iNegQ_eq, lenQ_eq, nthQ_eq, setQ_eq, appQ_eq, mapQ_eq, allQ_eq, anyQ_eq, dropQ_eq, takeQ_eq, revQ_eq, getDQ_eq, optLQ_eq, brecC]
    all_goals rfl
  | cons h_0 t_0 =>
    show (Bool.rec (motive := fun _ => Bool) false (chkP tab fs θ a t_0) (hasP tab fs θ h_0 a)) = _
    try simp only [iAddQ_eq, iMulQ_eq, iNegQ_eq, lenQ_eq, nthQ_eq, setQ_eq, appQ_eq, mapQ_eq, allQ_eq, anyQ_eq, dropQ_eq, takeQ_eq, revQ_eq, getDQ_eq, optLQ_eq, brecC]
    all_goals
      cases hq_1 : (hasP tab fs θ h_0 a) with
      | false =>
        try dsimp only [cond_false, cond_true]
        all_goals rfl
      | true =>
        try dsimp only [cond_false, cond_true]
        all_goals rfl
noncomputable def chkT_a0 :=
  fun (ih : Bool) (tab : Tb) (fs : List Ln) (lo_2010 : Int) (hi_2011 : Int) (θ : Th) (s_2008 : Nat) => ((Bool.rec (motive := fun _ => Bool) false (ih) (inF tab fs lo_2010 hi_2011 (θ s_2008))) : Bool)
noncomputable def chkT (tab : Tb) (fs : List Ln) (θ : Th) : TbL → Bool :=
  fun e_0 => List.rec (motive := fun _ => Bool) true (fun h_0 t_0 ih => (Prod.rec (motive := fun _ => Bool) (fun s_2008 x_2009 => (Prod.rec (motive := fun _ => Bool) (fun lo_2010 hi_2011 => (chkT_a0 ih tab fs lo_2010 hi_2011 θ s_2008)) x_2009)) h_0)) e_0 
theorem chkT_def (tab : Tb) (fs : List Ln) (θ : Th) (e_0 : TbL) : chkT tab fs θ e_0 = (match e_0 with
  | [] => true
  | (s, lo, hi) :: r => bif inF tab fs lo hi (θ s) then chkT tab fs θ r else false) := by
  cases e_0 with
  | nil =>
    show true = _
    try simp only [iAddQ_eq, iMulQ_eq, iNegQ_eq, lenQ_eq, nthQ_eq, setQ_eq, appQ_eq, mapQ_eq, allQ_eq, anyQ_eq, dropQ_eq, takeQ_eq, revQ_eq, getDQ_eq, optLQ_eq, brecC]
    all_goals rfl
  | cons h_0 t_0 =>
    show (Prod.rec (motive := fun _ => Bool) (fun s_2012 x_2013 => (Prod.rec (motive := fun _ => Bool) (fun lo_2014 hi_2015 => (Bool.rec (motive := fun _ => Bool) false (chkT tab fs θ t_0) (inF tab fs lo_2014 hi_2015 (θ s_2012)))) x_2013)) h_0) = _
    try simp only [iAddQ_eq, iMulQ_eq, iNegQ_eq, lenQ_eq, nthQ_eq, setQ_eq, appQ_eq, mapQ_eq, allQ_eq, anyQ_eq, dropQ_eq, takeQ_eq, revQ_eq, getDQ_eq, optLQ_eq, brecC]
    all_goals
      cases h_0 with
      | mk y_2016 y_2017 =>
        try dsimp only [cond_false, cond_true]
        all_goals
          cases y_2017 with
          | mk y_2018 y_2019 =>
            try dsimp only [cond_false, cond_true]
            all_goals
              cases hq_3 : (inF tab fs y_2018 y_2019 ((θ y_2016))) with
              | false =>
                try dsimp only [cond_false, cond_true]
                all_goals rfl
              | true =>
                try dsimp only [cond_false, cond_true]
                all_goals rfl
noncomputable def chkF_a0 :=
  fun (ih : Bool) (tab : Tb) (fs : List Ln) (θ : Th) (h_0 : Ln) => ((Bool.rec (motive := fun _ => Bool) false (ih) (le0 tab fs (sbL θ h_0))) : Bool)
noncomputable def chkF (tab : Tb) (fs : List Ln) (θ : Th) : List Ln → Bool :=
  fun e_0 => List.rec (motive := fun _ => Bool) true (fun h_0 t_0 ih => (chkF_a0 ih tab fs θ h_0)) e_0 
theorem chkF_def (tab : Tb) (fs : List Ln) (θ : Th) (e_0 : List Ln) : chkF tab fs θ e_0 = (match e_0 with
  | [] => true
  | f :: r => bif le0 tab fs (sbL θ f) then chkF tab fs θ r else false) := by
  cases e_0 with
  | nil =>
    show true = _
    try simp only [iAddQ_eq, iMulQ_eq, iNegQ_eq, lenQ_eq, nthQ_eq, setQ_eq, appQ_eq, mapQ_eq, allQ_eq, anyQ_eq, dropQ_eq, takeQ_eq, revQ_eq, getDQ_eq, optLQ_eq, brecC]
    all_goals rfl
  | cons h_0 t_0 =>
    show (Bool.rec (motive := fun _ => Bool) false (chkF tab fs θ t_0) (le0 tab fs (sbL θ h_0))) = _
    try simp only [iAddQ_eq, iMulQ_eq, iNegQ_eq, lenQ_eq, nthQ_eq, setQ_eq, appQ_eq, mapQ_eq, allQ_eq, anyQ_eq, dropQ_eq, takeQ_eq, revQ_eq, getDQ_eq, optLQ_eq, brecC]
    all_goals
      cases hq_1 : (le0 tab fs ((sbL θ h_0))) with
      | false =>
        try dsimp only [cond_false, cond_true]
        all_goals rfl
      | true =>
        try dsimp only [cond_false, cond_true]
        all_goals rfl
noncomputable def scV_a0 :=
  fun (n : Nat) (q_2035 : Ln) (p_2034 : Ln) => ((Bool.rec (motive := fun _ => Bool) false (scL n q_2035) (scL n p_2034)) : Bool)
noncomputable def scV (n : Nat) (a : AV) : Bool :=
  (Sum.rec (motive := fun _ => Bool) (fun x_2028 => (Prod.rec (motive := fun _ => Bool) (fun x_2030 e_2031 => (scL n e_2031)) x_2028)) (fun x_2029 => (Sum.rec (motive := fun _ => Bool) (fun x_2032 => true) (fun x_2033 => (Prod.rec (motive := fun _ => Bool) (fun p_2034 q_2035 => (scV_a0 n q_2035 p_2034)) x_2033)) x_2029)) a)
theorem scV_def (n : Nat) (a : AV) : scV n a = (match a with
  | .inl (_, e) => scL n e
  | .inr (.inr (p, q)) => bif scL n p then scL n q else false
  | _ => true) := by
  show (Sum.rec (motive := fun _ => Bool) (fun x_2020 => (Prod.rec (motive := fun _ => Bool) (fun x_2022 e_2023 => (scL n e_2023)) x_2020)) (fun x_2021 => (Sum.rec (motive := fun _ => Bool) (fun x_2024 => true) (fun x_2025 => (Prod.rec (motive := fun _ => Bool) (fun p_2026 q_2027 => (Bool.rec (motive := fun _ => Bool) false (scL n q_2027) (scL n p_2026))) x_2025)) x_2021)) a) = _
  try simp only [iAddQ_eq, iMulQ_eq, iNegQ_eq, lenQ_eq, nthQ_eq, setQ_eq, appQ_eq, mapQ_eq, allQ_eq, anyQ_eq, dropQ_eq, takeQ_eq, revQ_eq, getDQ_eq, optLQ_eq, brecC]
  all_goals
    cases a with
    | inl y_2036 =>
      try dsimp only [cond_false, cond_true]
      all_goals
        cases y_2036 with
        | mk y_2037 y_2038 =>
          try dsimp only [cond_false, cond_true]
          all_goals rfl
    | inr y_2039 =>
      try dsimp only [cond_false, cond_true]
      all_goals
        cases y_2039 with
        | inl y_2040 =>
          try dsimp only [cond_false, cond_true]
          all_goals rfl
        | inr y_2041 =>
          try dsimp only [cond_false, cond_true]
          all_goals
            cases y_2041 with
            | mk y_2042 y_2043 =>
              try dsimp only [cond_false, cond_true]
              all_goals
                cases hq_5 : (scL n y_2042) with
                | false =>
                  try dsimp only [cond_false, cond_true]
                  all_goals rfl
                | true =>
                  try dsimp only [cond_false, cond_true]
                  all_goals rfl
noncomputable def scS (n : Nat) (s : Sg) : Bool :=
  (Sum.rec (motive := fun _ => Bool) (fun e_2046 => (scL n e_2046)) (fun x_2047 => true) s)
theorem scS_def (n : Nat) (s : Sg) : scS n s = (match s with
  | .inl e => scL n e
  | _ => true) := by
  show (Sum.rec (motive := fun _ => Bool) (fun e_2044 => (scL n e_2044)) (fun x_2045 => true) s) = _
  all_goals
    cases s with
    | inl y_2048 =>
      try dsimp only [cond_false, cond_true]
      all_goals rfl
    | inr y_2049 =>
      try dsimp only [cond_false, cond_true]
      all_goals rfl
noncomputable def scC (n : Nat) (c : AC) : Bool :=
  (Sum.rec (motive := fun _ => Bool) (fun x_2058 => (Prod.rec (motive := fun _ => Bool) (fun x_2060 as_2061 => (allQ (scV n) as_2061)) x_2058)) (fun x_2059 => (Prod.rec (motive := fun _ => Bool) (fun x_2062 x_2063 => (Sum.rec (motive := fun _ => Bool) (fun s_2064 => (allQ (scS n) s_2064)) (fun x_2065 => true) x_2063)) x_2059)) c)
theorem scC_def (n : Nat) (c : AC) : scC n c = (match c with
  | .inl (_, as) => as.all (scV n)
  | .inr (_, .inl s) => s.all (scS n)
  | _ => true) := by
  show (Sum.rec (motive := fun _ => Bool) (fun x_2050 => (Prod.rec (motive := fun _ => Bool) (fun x_2052 as_2053 => (allQ (scV n) as_2053)) x_2050)) (fun x_2051 => (Prod.rec (motive := fun _ => Bool) (fun x_2054 x_2055 => (Sum.rec (motive := fun _ => Bool) (fun s_2056 => (allQ (scS n) s_2056)) (fun x_2057 => true) x_2055)) x_2051)) c) = _
  try simp only [iAddQ_eq, iMulQ_eq, iNegQ_eq, lenQ_eq, nthQ_eq, setQ_eq, appQ_eq, mapQ_eq, allQ_eq, anyQ_eq, dropQ_eq, takeQ_eq, revQ_eq, getDQ_eq, optLQ_eq, brecC]
  all_goals
    cases c with
    | inl y_2066 =>
      try dsimp only [cond_false, cond_true]
      all_goals
        cases y_2066 with
        | mk y_2067 y_2068 =>
          try dsimp only [cond_false, cond_true]
          all_goals rfl
    | inr y_2069 =>
      try dsimp only [cond_false, cond_true]
      all_goals
        cases y_2069 with
        | mk y_2070 y_2071 =>
          try dsimp only [cond_false, cond_true]
          all_goals
            cases y_2071 with
            | inl y_2072 =>
              try dsimp only [cond_false, cond_true]
              all_goals rfl
            | inr y_2073 =>
              try dsimp only [cond_false, cond_true]
              all_goals rfl
-- the same text
noncomputable def eqLn (a b : Ln) : Bool :=
  (Bool.rec (motive := fun _ => Bool) false (eqT a.2 b.2) (eqI a.1 b.1))
theorem eqLn_def (a b : Ln) : eqLn a b = bif eqI a.1 b.1 then eqT a.2 b.2 else false := by
  show (Bool.rec (motive := fun _ => Bool) false (eqT a.2 b.2) (eqI a.1 b.1)) = _
  try simp only [iAddQ_eq, iMulQ_eq, iNegQ_eq, lenQ_eq, nthQ_eq, setQ_eq, appQ_eq, mapQ_eq, allQ_eq, anyQ_eq, dropQ_eq, takeQ_eq, revQ_eq, getDQ_eq, optLQ_eq, brecC]
  all_goals
    cases hq_1 : (eqI a.1 b.1) with
    | false =>
      try dsimp only [cond_false, cond_true]
      all_goals rfl
    | true =>
      try dsimp only [cond_false, cond_true]
      all_goals rfl
noncomputable def eqAV_a0 :=
  fun (e_2098 : Ln) (e_2102 : Ln) (b_2097 : Bool) (b_2101 : Bool) => ((Bool.rec (motive := fun _ => Bool) false (eqLn e_2098 e_2102) (lnB b_2097 b_2101)) : Bool)
noncomputable def eqAV (p a : AV) : Bool :=
  (Sum.rec (motive := fun _ => Bool) (fun x_2095 => (Prod.rec (motive := fun _ => Bool) (fun b_2097 e_2098 => (Sum.rec (motive := fun _ => Bool) (fun x_2099 => (Prod.rec (motive := fun _ => Bool) (fun b_2101 e_2102 => (eqAV_a0 e_2098 e_2102 b_2097 b_2101)) x_2099)) (fun x_2100 => false) a)) x_2095)) (fun x_2096 => (Sum.rec (motive := fun _ => Bool) (fun x_2103 => (Option.rec (motive := fun _ => Bool) (Sum.rec (motive := fun _ => Bool) (fun x_2106 => false) (fun x_2107 => (Sum.rec (motive := fun _ => Bool) (fun x_2108 => (Option.rec (motive := fun _ => Bool) true (fun x_2110 => false) x_2108)) (fun x_2109 => false) x_2107)) a) (fun i_2105 => (Sum.rec (motive := fun _ => Bool) (fun x_2111 => false) (fun x_2112 => (Sum.rec (motive := fun _ => Bool) (fun x_2113 => (Option.rec (motive := fun _ => Bool) false (fun j_2115 => (Nat.beq i_2105 j_2115)) x_2113)) (fun x_2114 => false) x_2112)) a)) x_2103)) (fun x_2104 => false) x_2096)) p)
theorem eqAV_def (p a : AV) : eqAV p a = (match p, a with
  | .inl (b, e), .inl (b', e') => bif lnB b b' then eqLn e e' else false
  | .inr (.inl (some i)), .inr (.inl (some j)) => Nat.beq i j
  | .inr (.inl none), .inr (.inl none) => true
  | _, _ => false) := by
  show (Sum.rec (motive := fun _ => Bool) (fun x_2074 => (Prod.rec (motive := fun _ => Bool) (fun b_2076 e_2077 => (Sum.rec (motive := fun _ => Bool) (fun x_2078 => (Prod.rec (motive := fun _ => Bool) (fun b_2080 e_2081 => (Bool.rec (motive := fun _ => Bool) false (eqLn e_2077 e_2081) (lnB b_2076 b_2080))) x_2078)) (fun x_2079 => false) a)) x_2074)) (fun x_2075 => (Sum.rec (motive := fun _ => Bool) (fun x_2082 => (Option.rec (motive := fun _ => Bool) (Sum.rec (motive := fun _ => Bool) (fun x_2085 => false) (fun x_2086 => (Sum.rec (motive := fun _ => Bool) (fun x_2087 => (Option.rec (motive := fun _ => Bool) true (fun x_2089 => false) x_2087)) (fun x_2088 => false) x_2086)) a) (fun i_2084 => (Sum.rec (motive := fun _ => Bool) (fun x_2090 => false) (fun x_2091 => (Sum.rec (motive := fun _ => Bool) (fun x_2092 => (Option.rec (motive := fun _ => Bool) false (fun j_2094 => (Nat.beq i_2084 j_2094)) x_2092)) (fun x_2093 => false) x_2091)) a)) x_2082)) (fun x_2083 => false) x_2075)) p) = _
  try simp only [iAddQ_eq, iMulQ_eq, iNegQ_eq, lenQ_eq, nthQ_eq, setQ_eq, appQ_eq, mapQ_eq, allQ_eq, anyQ_eq, dropQ_eq, takeQ_eq, revQ_eq, getDQ_eq, optLQ_eq, brecC]
  all_goals
    cases p with
    | inl y_2116 =>
      try dsimp only [cond_false, cond_true]
      all_goals
        cases y_2116 with
        | mk y_2117 y_2118 =>
          try dsimp only [cond_false, cond_true]
          all_goals
            cases a with
            | inl y_2119 =>
              try dsimp only [cond_false, cond_true]
              all_goals
                cases y_2119 with
                | mk y_2120 y_2121 =>
                  try dsimp only [cond_false, cond_true]
                  all_goals
                    cases hq_5 : (lnB y_2117 y_2120) with
                    | false =>
                      try dsimp only [cond_false, cond_true]
                      all_goals rfl
                    | true =>
                      try dsimp only [cond_false, cond_true]
                      all_goals rfl
            | inr y_2122 =>
              try dsimp only [cond_false, cond_true]
              all_goals rfl
    | inr y_2123 =>
      try dsimp only [cond_false, cond_true]
      all_goals
        cases y_2123 with
        | inl y_2124 =>
          try dsimp only [cond_false, cond_true]
          all_goals
            cases y_2124 with
            | none =>
              try dsimp only [cond_false, cond_true]
              all_goals
                cases a with
                | inl y_2125 =>
                  try dsimp only [cond_false, cond_true]
                  all_goals rfl
                | inr y_2126 =>
                  try dsimp only [cond_false, cond_true]
                  all_goals
                    cases y_2126 with
                    | inl y_2127 =>
                      try dsimp only [cond_false, cond_true]
                      all_goals
                        cases y_2127 with
                        | none =>
                          try dsimp only [cond_false, cond_true]
                          all_goals rfl
                        | some y_2128 =>
                          try dsimp only [cond_false, cond_true]
                          all_goals rfl
                    | inr y_2129 =>
                      try dsimp only [cond_false, cond_true]
                      all_goals rfl
            | some y_2130 =>
              try dsimp only [cond_false, cond_true]
              all_goals
                cases a with
                | inl y_2131 =>
                  try dsimp only [cond_false, cond_true]
                  all_goals rfl
                | inr y_2132 =>
                  try dsimp only [cond_false, cond_true]
                  all_goals
                    cases y_2132 with
                    | inl y_2133 =>
                      try dsimp only [cond_false, cond_true]
                      all_goals
                        cases y_2133 with
                        | none =>
                          try dsimp only [cond_false, cond_true]
                          all_goals rfl
                        | some y_2134 =>
                          try dsimp only [cond_false, cond_true]
                          all_goals rfl
                    | inr y_2135 =>
                      try dsimp only [cond_false, cond_true]
                      all_goals rfl
        | inr y_2136 =>
          try dsimp only [cond_false, cond_true]
          all_goals rfl
noncomputable def eqAVs_a0 :=
  fun (ih : List AV → Bool) (q_2140 : List AV) (h_0 : AV) (a_2139 : AV) => ((Bool.rec (motive := fun _ => Bool) false (ih q_2140) (eqAV h_0 a_2139)) : Bool)
noncomputable def eqAVs  : List AV → List AV → Bool :=
  fun e_0 e_1 => List.rec (motive := fun _ => List AV → Bool) (fun e_1 => (List.rec (motive := fun _ => Bool) true (fun x_2137 x_2138 _ => false) e_1)) (fun h_0 t_0 ih e_1 => (List.rec (motive := fun _ => Bool) false (fun a_2139 q_2140 _ => (eqAVs_a0 ih q_2140 h_0 a_2139)) e_1)) e_0 e_1
theorem eqAVs_def  (e_0 : List AV) (e_1 : List AV) : eqAVs  e_0 e_1 = (match e_0, e_1 with
  | [], [] => true
  | p :: r, a :: q => bif eqAV p a then eqAVs r q else false
  | _, _ => false) := by
  cases e_0 with
  | nil =>
    show (List.rec (motive := fun _ => Bool) true (fun x_2141 x_2142 _ => false) e_1) = _
    try simp only [iAddQ_eq, iMulQ_eq, iNegQ_eq, lenQ_eq, nthQ_eq, setQ_eq, appQ_eq, mapQ_eq, allQ_eq, anyQ_eq, dropQ_eq, takeQ_eq, revQ_eq, getDQ_eq, optLQ_eq, brecC]
    all_goals
      cases e_1 with
      | nil =>
        try dsimp only [cond_false, cond_true]
        all_goals rfl
      | cons y_2143 y_2144 =>
        try dsimp only [cond_false, cond_true]
        all_goals rfl
  | cons h_0 t_0 =>
    show (List.rec (motive := fun _ => Bool) false (fun a_2145 q_2146 _ => (Bool.rec (motive := fun _ => Bool) false (eqAVs t_0 q_2146) (eqAV h_0 a_2145))) e_1) = _
    try simp only [iAddQ_eq, iMulQ_eq, iNegQ_eq, lenQ_eq, nthQ_eq, setQ_eq, appQ_eq, mapQ_eq, allQ_eq, anyQ_eq, dropQ_eq, takeQ_eq, revQ_eq, getDQ_eq, optLQ_eq, brecC]
    all_goals
      cases e_1 with
      | nil =>
        try dsimp only [cond_false, cond_true]
        all_goals rfl
      | cons y_2147 y_2148 =>
        try dsimp only [cond_false, cond_true]
        all_goals
          cases hq_3 : (eqAV h_0 y_2147) with
          | false =>
            try dsimp only [cond_false, cond_true]
            all_goals rfl
          | true =>
            try dsimp only [cond_false, cond_true]
            all_goals rfl
noncomputable def eqSg_a0 :=
  fun (hi_2170 : Int) (hi_2176 : Int) (lo_2169 : Int) (lo_2175 : Int) => ((Bool.rec (motive := fun _ => Bool) false (eqI hi_2170 hi_2176) (eqI lo_2169 lo_2175)) : Bool)
noncomputable def eqSg_a1 :=
  fun (hi_2170 : Int) (hi_2176 : Int) (lo_2169 : Int) (lo_2175 : Int) (m_2167 : Nat) (m_2173 : Nat) => ((Bool.rec (motive := fun _ => Bool) false (eqSg_a0 hi_2170 hi_2176 lo_2169 lo_2175) (Nat.beq m_2167 m_2173)) : Bool)
noncomputable def eqSg (p a : Sg) : Bool :=
  (Sum.rec (motive := fun _ => Bool) (fun e_2163 => (Sum.rec (motive := fun _ => Bool) (fun e_2165 => (eqLn e_2163 e_2165)) (fun x_2166 => false) a)) (fun x_2164 => (Prod.rec (motive := fun _ => Bool) (fun m_2167 x_2168 => (Prod.rec (motive := fun _ => Bool) (fun lo_2169 hi_2170 => (Sum.rec (motive := fun _ => Bool) (fun x_2171 => false) (fun x_2172 => (Prod.rec (motive := fun _ => Bool) (fun m_2173 x_2174 => (Prod.rec (motive := fun _ => Bool) (fun lo_2175 hi_2176 => (eqSg_a1 hi_2170 hi_2176 lo_2169 lo_2175 m_2167 m_2173)) x_2174)) x_2172)) a)) x_2168)) x_2164)) p)
theorem eqSg_def (p a : Sg) : eqSg p a = (match p, a with
  | .inl e, .inl e' => eqLn e e'
  | .inr (m, lo, hi), .inr (m', lo', hi') => bif Nat.beq m m' then (bif eqI lo lo' then eqI hi hi' else false) else false
  | _, _ => false) := by
  show (Sum.rec (motive := fun _ => Bool) (fun e_2149 => (Sum.rec (motive := fun _ => Bool) (fun e_2151 => (eqLn e_2149 e_2151)) (fun x_2152 => false) a)) (fun x_2150 => (Prod.rec (motive := fun _ => Bool) (fun m_2153 x_2154 => (Prod.rec (motive := fun _ => Bool) (fun lo_2155 hi_2156 => (Sum.rec (motive := fun _ => Bool) (fun x_2157 => false) (fun x_2158 => (Prod.rec (motive := fun _ => Bool) (fun m_2159 x_2160 => (Prod.rec (motive := fun _ => Bool) (fun lo_2161 hi_2162 => (Bool.rec (motive := fun _ => Bool) false (Bool.rec (motive := fun _ => Bool) false (eqI hi_2156 hi_2162) (eqI lo_2155 lo_2161)) (Nat.beq m_2153 m_2159))) x_2160)) x_2158)) a)) x_2154)) x_2150)) p) = _
  try simp only [iAddQ_eq, iMulQ_eq, iNegQ_eq, lenQ_eq, nthQ_eq, setQ_eq, appQ_eq, mapQ_eq, allQ_eq, anyQ_eq, dropQ_eq, takeQ_eq, revQ_eq, getDQ_eq, optLQ_eq, brecC]
  all_goals
    cases p with
    | inl y_2177 =>
      try dsimp only [cond_false, cond_true]
      all_goals
        cases a with
        | inl y_2178 =>
          try dsimp only [cond_false, cond_true]
          all_goals rfl
        | inr y_2179 =>
          try dsimp only [cond_false, cond_true]
          all_goals rfl
    | inr y_2180 =>
      try dsimp only [cond_false, cond_true]
      all_goals
        cases y_2180 with
        | mk y_2181 y_2182 =>
          try dsimp only [cond_false, cond_true]
          all_goals
            cases y_2182 with
            | mk y_2183 y_2184 =>
              try dsimp only [cond_false, cond_true]
              all_goals
                cases a with
                | inl y_2185 =>
                  try dsimp only [cond_false, cond_true]
                  all_goals rfl
                | inr y_2186 =>
                  try dsimp only [cond_false, cond_true]
                  all_goals
                    cases y_2186 with
                    | mk y_2187 y_2188 =>
                      try dsimp only [cond_false, cond_true]
                      all_goals
                        cases y_2188 with
                        | mk y_2189 y_2190 =>
                          try dsimp only [cond_false, cond_true]
                          all_goals
                            cases hq_8 : (Nat.beq y_2181 y_2187) with
                            | false =>
                              try dsimp only [cond_false, cond_true]
                              all_goals rfl
                            | true =>
                              try dsimp only [cond_false, cond_true]
                              all_goals
                                cases hq_9 : (eqI y_2183 y_2189) with
                                | false =>
                                  try dsimp only [cond_false, cond_true]
                                  all_goals rfl
                                | true =>
                                  try dsimp only [cond_false, cond_true]
                                  all_goals rfl
noncomputable def eqSgs_a0 :=
  fun (ih : List Sg → Bool) (q_2194 : List Sg) (h_0 : Sg) (a_2193 : Sg) => ((Bool.rec (motive := fun _ => Bool) false (ih q_2194) (eqSg h_0 a_2193)) : Bool)
noncomputable def eqSgs  : List Sg → List Sg → Bool :=
  fun e_0 e_1 => List.rec (motive := fun _ => List Sg → Bool) (fun e_1 => (List.rec (motive := fun _ => Bool) true (fun x_2191 x_2192 _ => false) e_1)) (fun h_0 t_0 ih e_1 => (List.rec (motive := fun _ => Bool) false (fun a_2193 q_2194 _ => (eqSgs_a0 ih q_2194 h_0 a_2193)) e_1)) e_0 e_1
theorem eqSgs_def  (e_0 : List Sg) (e_1 : List Sg) : eqSgs  e_0 e_1 = (match e_0, e_1 with
  | [], [] => true
  | p :: r, a :: q => bif eqSg p a then eqSgs r q else false
  | _, _ => false) := by
  cases e_0 with
  | nil =>
    show (List.rec (motive := fun _ => Bool) true (fun x_2195 x_2196 _ => false) e_1) = _
    try simp only [iAddQ_eq, iMulQ_eq, iNegQ_eq, lenQ_eq, nthQ_eq, setQ_eq, appQ_eq, mapQ_eq, allQ_eq, anyQ_eq, dropQ_eq, takeQ_eq, revQ_eq, getDQ_eq, optLQ_eq, brecC]
    all_goals
      cases e_1 with
      | nil =>
        try dsimp only [cond_false, cond_true]
        all_goals rfl
      | cons y_2197 y_2198 =>
        try dsimp only [cond_false, cond_true]
        all_goals rfl
  | cons h_0 t_0 =>
    show (List.rec (motive := fun _ => Bool) false (fun a_2199 q_2200 _ => (Bool.rec (motive := fun _ => Bool) false (eqSgs t_0 q_2200) (eqSg h_0 a_2199))) e_1) = _
    try simp only [iAddQ_eq, iMulQ_eq, iNegQ_eq, lenQ_eq, nthQ_eq, setQ_eq, appQ_eq, mapQ_eq, allQ_eq, anyQ_eq, dropQ_eq, takeQ_eq, revQ_eq, getDQ_eq, optLQ_eq, brecC]
    all_goals
      cases e_1 with
      | nil =>
        try dsimp only [cond_false, cond_true]
        all_goals rfl
      | cons y_2201 y_2202 =>
        try dsimp only [cond_false, cond_true]
        all_goals
          cases hq_3 : (eqSg h_0 y_2201) with
          | false =>
            try dsimp only [cond_false, cond_true]
            all_goals rfl
          | true =>
            try dsimp only [cond_false, cond_true]
            all_goals rfl
noncomputable def eqAC_a0 :=
  fun (l_2242 : List AV) (l_2246 : List AV) (c_2241 : Nat) (c_2245 : Nat) => ((Bool.rec (motive := fun _ => Bool) false (eqAVs l_2242 l_2246) (Nat.beq c_2241 c_2245)) : Bool)
noncomputable def eqAC_a1 :=
  fun (s_2249 : List Sg) (s_2255 : List Sg) (k_2247 : Nat) (k_2253 : Nat) => ((Bool.rec (motive := fun _ => Bool) false (eqSgs s_2249 s_2255) (Nat.beq k_2247 k_2253)) : Bool)
noncomputable def eqAC_a2 :=
  fun (m_2257 : Nat) (m_2265 : Nat) (k_2247 : Nat) (k_2261 : Nat) => ((Bool.rec (motive := fun _ => Bool) false (Nat.beq m_2257 m_2265) (Nat.beq k_2247 k_2261)) : Bool)
noncomputable def eqAC_a3 :=
  fun (l_2258 : List (Option Nat)) (l_2274 : List (Option Nat)) (k_2247 : Nat) (k_2269 : Nat) => ((Bool.rec (motive := fun _ => Bool) false (eqO l_2258 l_2274) (Nat.beq k_2247 k_2269)) : Bool)
noncomputable def eqAC (p a : AC) : Bool :=
  (Sum.rec (motive := fun _ => Bool) (fun x_2239 => (Prod.rec (motive := fun _ => Bool) (fun c_2241 l_2242 => (Sum.rec (motive := fun _ => Bool) (fun x_2243 => (Prod.rec (motive := fun _ => Bool) (fun c_2245 l_2246 => (eqAC_a0 l_2242 l_2246 c_2241 c_2245)) x_2243)) (fun x_2244 => false) a)) x_2239)) (fun x_2240 => (Prod.rec (motive := fun _ => Bool) (fun k_2247 x_2248 => (Sum.rec (motive := fun _ => Bool) (fun s_2249 => (Sum.rec (motive := fun _ => Bool) (fun x_2251 => false) (fun x_2252 => (Prod.rec (motive := fun _ => Bool) (fun k_2253 x_2254 => (Sum.rec (motive := fun _ => Bool) (fun s_2255 => (eqAC_a1 s_2249 s_2255 k_2247 k_2253)) (fun x_2256 => false) x_2254)) x_2252)) a)) (fun x_2250 => (Sum.rec (motive := fun _ => Bool) (fun m_2257 => (Sum.rec (motive := fun _ => Bool) (fun x_2259 => false) (fun x_2260 => (Prod.rec (motive := fun _ => Bool) (fun k_2261 x_2262 => (Sum.rec (motive := fun _ => Bool) (fun x_2263 => false) (fun x_2264 => (Sum.rec (motive := fun _ => Bool) (fun m_2265 => (eqAC_a2 m_2257 m_2265 k_2247 k_2261)) (fun x_2266 => false) x_2264)) x_2262)) x_2260)) a)) (fun l_2258 => (Sum.rec (motive := fun _ => Bool) (fun x_2267 => false) (fun x_2268 => (Prod.rec (motive := fun _ => Bool) (fun k_2269 x_2270 => (Sum.rec (motive := fun _ => Bool) (fun x_2271 => false) (fun x_2272 => (Sum.rec (motive := fun _ => Bool) (fun x_2273 => false) (fun l_2274 => (eqAC_a3 l_2258 l_2274 k_2247 k_2269)) x_2272)) x_2270)) x_2268)) a)) x_2250)) x_2248)) x_2240)) p)
theorem eqAC_def (p a : AC) : eqAC p a = (match p, a with
  | .inl (c, l), .inl (c', l') => bif Nat.beq c c' then eqAVs l l' else false
  | .inr (k, .inl s), .inr (k', .inl s') => bif Nat.beq k k' then eqSgs s s' else false
  | .inr (k, .inr (.inl m)), .inr (k', .inr (.inl m')) => bif Nat.beq k k' then Nat.beq m m' else false
  | .inr (k, .inr (.inr l)), .inr (k', .inr (.inr l')) => bif Nat.beq k k' then eqO l l' else false
  | _, _ => false) := by
  show (Sum.rec (motive := fun _ => Bool) (fun x_2203 => (Prod.rec (motive := fun _ => Bool) (fun c_2205 l_2206 => (Sum.rec (motive := fun _ => Bool) (fun x_2207 => (Prod.rec (motive := fun _ => Bool) (fun c_2209 l_2210 => (Bool.rec (motive := fun _ => Bool) false (eqAVs l_2206 l_2210) (Nat.beq c_2205 c_2209))) x_2207)) (fun x_2208 => false) a)) x_2203)) (fun x_2204 => (Prod.rec (motive := fun _ => Bool) (fun k_2211 x_2212 => (Sum.rec (motive := fun _ => Bool) (fun s_2213 => (Sum.rec (motive := fun _ => Bool) (fun x_2215 => false) (fun x_2216 => (Prod.rec (motive := fun _ => Bool) (fun k_2217 x_2218 => (Sum.rec (motive := fun _ => Bool) (fun s_2219 => (Bool.rec (motive := fun _ => Bool) false (eqSgs s_2213 s_2219) (Nat.beq k_2211 k_2217))) (fun x_2220 => false) x_2218)) x_2216)) a)) (fun x_2214 => (Sum.rec (motive := fun _ => Bool) (fun m_2221 => (Sum.rec (motive := fun _ => Bool) (fun x_2223 => false) (fun x_2224 => (Prod.rec (motive := fun _ => Bool) (fun k_2225 x_2226 => (Sum.rec (motive := fun _ => Bool) (fun x_2227 => false) (fun x_2228 => (Sum.rec (motive := fun _ => Bool) (fun m_2229 => (Bool.rec (motive := fun _ => Bool) false (Nat.beq m_2221 m_2229) (Nat.beq k_2211 k_2225))) (fun x_2230 => false) x_2228)) x_2226)) x_2224)) a)) (fun l_2222 => (Sum.rec (motive := fun _ => Bool) (fun x_2231 => false) (fun x_2232 => (Prod.rec (motive := fun _ => Bool) (fun k_2233 x_2234 => (Sum.rec (motive := fun _ => Bool) (fun x_2235 => false) (fun x_2236 => (Sum.rec (motive := fun _ => Bool) (fun x_2237 => false) (fun l_2238 => (Bool.rec (motive := fun _ => Bool) false (eqO l_2222 l_2238) (Nat.beq k_2211 k_2233))) x_2236)) x_2234)) x_2232)) a)) x_2214)) x_2212)) x_2204)) p) = _
  try simp only [iAddQ_eq, iMulQ_eq, iNegQ_eq, lenQ_eq, nthQ_eq, setQ_eq, appQ_eq, mapQ_eq, allQ_eq, anyQ_eq, dropQ_eq, takeQ_eq, revQ_eq, getDQ_eq, optLQ_eq, brecC]
  all_goals
    cases p with
    | inl y_2275 =>
      try dsimp only [cond_false, cond_true]
      all_goals
        cases y_2275 with
        | mk y_2276 y_2277 =>
          try dsimp only [cond_false, cond_true]
          all_goals
            cases a with
            | inl y_2278 =>
              try dsimp only [cond_false, cond_true]
              all_goals
                cases y_2278 with
                | mk y_2279 y_2280 =>
                  try dsimp only [cond_false, cond_true]
                  all_goals
                    cases hq_5 : (Nat.beq y_2276 y_2279) with
                    | false =>
                      try dsimp only [cond_false, cond_true]
                      all_goals rfl
                    | true =>
                      try dsimp only [cond_false, cond_true]
                      all_goals rfl
            | inr y_2281 =>
              try dsimp only [cond_false, cond_true]
              all_goals rfl
    | inr y_2282 =>
      try dsimp only [cond_false, cond_true]
      all_goals
        cases y_2282 with
        | mk y_2283 y_2284 =>
          try dsimp only [cond_false, cond_true]
          all_goals
            cases y_2284 with
            | inl y_2285 =>
              try dsimp only [cond_false, cond_true]
              all_goals
                cases a with
                | inl y_2286 =>
                  try dsimp only [cond_false, cond_true]
                  all_goals rfl
                | inr y_2287 =>
                  try dsimp only [cond_false, cond_true]
                  all_goals
                    cases y_2287 with
                    | mk y_2288 y_2289 =>
                      try dsimp only [cond_false, cond_true]
                      all_goals
                        cases y_2289 with
                        | inl y_2290 =>
                          try dsimp only [cond_false, cond_true]
                          all_goals
                            cases hq_11 : (Nat.beq y_2283 y_2288) with
                            | false =>
                              try dsimp only [cond_false, cond_true]
                              all_goals rfl
                            | true =>
                              try dsimp only [cond_false, cond_true]
                              all_goals rfl
                        | inr y_2291 =>
                          try dsimp only [cond_false, cond_true]
                          all_goals rfl
            | inr y_2292 =>
              try dsimp only [cond_false, cond_true]
              all_goals
                cases y_2292 with
                | inl y_2293 =>
                  try dsimp only [cond_false, cond_true]
                  all_goals
                    cases a with
                    | inl y_2294 =>
                      try dsimp only [cond_false, cond_true]
                      all_goals rfl
                    | inr y_2295 =>
                      try dsimp only [cond_false, cond_true]
                      all_goals
                        cases y_2295 with
                        | mk y_2296 y_2297 =>
                          try dsimp only [cond_false, cond_true]
                          all_goals
                            cases y_2297 with
                            | inl y_2298 =>
                              try dsimp only [cond_false, cond_true]
                              all_goals rfl
                            | inr y_2299 =>
                              try dsimp only [cond_false, cond_true]
                              all_goals
                                cases y_2299 with
                                | inl y_2300 =>
                                  try dsimp only [cond_false, cond_true]
                                  all_goals
                                    cases hq_17 : (Nat.beq y_2283 y_2296) with
                                    | false =>
                                      try dsimp only [cond_false, cond_true]
                                      all_goals rfl
                                    | true =>
                                      try dsimp only [cond_false, cond_true]
                                      all_goals rfl
                                | inr y_2301 =>
                                  try dsimp only [cond_false, cond_true]
                                  all_goals rfl
                | inr y_2302 =>
                  try dsimp only [cond_false, cond_true]
                  all_goals
                    cases a with
                    | inl y_2303 =>
                      try dsimp only [cond_false, cond_true]
                      all_goals rfl
                    | inr y_2304 =>
                      try dsimp only [cond_false, cond_true]
                      all_goals
                        cases y_2304 with
                        | mk y_2305 y_2306 =>
                          try dsimp only [cond_false, cond_true]
                          all_goals
                            cases y_2306 with
                            | inl y_2307 =>
                              try dsimp only [cond_false, cond_true]
                              all_goals rfl
                            | inr y_2308 =>
                              try dsimp only [cond_false, cond_true]
                              all_goals
                                cases y_2308 with
                                | inl y_2309 =>
                                  try dsimp only [cond_false, cond_true]
                                  all_goals rfl
                                | inr y_2310 =>
                                  try dsimp only [cond_false, cond_true]
                                  all_goals
                                    cases hq_22 : (Nat.beq y_2283 y_2305) with
                                    | false =>
                                      try dsimp only [cond_false, cond_true]
                                      all_goals rfl
                                    | true =>
                                      try dsimp only [cond_false, cond_true]
                                      all_goals rfl
/-- the same cell, of symbols that stay -/
noncomputable def qC_a0 :=
  fun (n : Nat) (p : AC) (a : AC) => ((Bool.rec (motive := fun _ => Bool) false (scC n p) (eqAC p a)) : Bool)
noncomputable def qC (n : Nat) (p a : AC) : Bool :=
  (Bool.rec (motive := fun _ => Bool) false (qC_a0 n p a) (Nat.ble (nat_lit 1) n))
theorem qC_def (n : Nat) (p a : AC) : qC n p a = bif Nat.ble 1 n then (bif eqAC p a then scC n p else false) else false := by
  show (Bool.rec (motive := fun _ => Bool) false (Bool.rec (motive := fun _ => Bool) false (scC n p) (eqAC p a)) (Nat.ble (nat_lit 1) n)) = _
  try simp only [iAddQ_eq, iMulQ_eq, iNegQ_eq, lenQ_eq, nthQ_eq, setQ_eq, appQ_eq, mapQ_eq, allQ_eq, anyQ_eq, dropQ_eq, takeQ_eq, revQ_eq, getDQ_eq, optLQ_eq, brecC]
  all_goals
    cases hq_1 : (Nat.ble 1 n) with
    | false =>
      try dsimp only [cond_false, cond_true]
      all_goals rfl
    | true =>
      try dsimp only [cond_false, cond_true]
      all_goals
        cases hq_2 : (eqAC p a) with
        | false =>
          try dsimp only [cond_false, cond_true]
          all_goals rfl
        | true =>
          try dsimp only [cond_false, cond_true]
          all_goals rfl
noncomputable def uniHR_a0 :=
  fun (ih : Un → AH → Un) (θ : Un) (h_0 : AC) (a_2311 : AC) (n : Nat) (q_2312 : List AC) => ((ih (Bool.rec (motive := fun _ => Un) (uniC θ h_0 a_2311) θ (qC n h_0 a_2311)) q_2312) : Un)
noncomputable def uniHR (n : Nat) : Un → AH → AH → Un :=
  fun θ e_0 e_1 => List.rec (motive := fun _ => Un → AH → Un) (fun θ e_1 => θ) (fun h_0 t_0 ih θ e_1 => (List.rec (motive := fun _ => Un) θ (fun a_2311 q_2312 _ => (uniHR_a0 ih θ h_0 a_2311 n q_2312)) e_1)) e_0 θ e_1
theorem uniHR_def (n : Nat) (θ : Un) (e_0 : AH) (e_1 : AH) : uniHR n θ e_0 e_1 = (match e_0, e_1 with
  | p :: r, a :: q => uniHR n (bif qC n p a then θ else uniC θ p a) r q
  | _, _ => θ) := by
  cases e_0 with
  | nil =>
    show θ = _
    try simp only [iAddQ_eq, iMulQ_eq, iNegQ_eq, lenQ_eq, nthQ_eq, setQ_eq, appQ_eq, mapQ_eq, allQ_eq, anyQ_eq, dropQ_eq, takeQ_eq, revQ_eq, getDQ_eq, optLQ_eq, brecC]
    all_goals rfl
  | cons h_0 t_0 =>
    show (List.rec (motive := fun _ => Un) θ (fun a_2313 q_2314 _ => (uniHR n (Bool.rec (motive := fun _ => Un) (uniC θ h_0 a_2313) θ (qC n h_0 a_2313)) t_0 q_2314)) e_1) = _
    try simp only [iAddQ_eq, iMulQ_eq, iNegQ_eq, lenQ_eq, nthQ_eq, setQ_eq, appQ_eq, mapQ_eq, allQ_eq, anyQ_eq, dropQ_eq, takeQ_eq, revQ_eq, getDQ_eq, optLQ_eq, brecC]
    all_goals
      cases e_1 with
      | nil =>
        try dsimp only [cond_false, cond_true]
        all_goals rfl
      | cons y_2315 y_2316 =>
        try dsimp only [cond_false, cond_true]
        all_goals rfl
noncomputable def chkHR_a0 :=
  fun (ih : AH → Bool) (q_2320 : List AC) (tab : Tb) (fs : List Ln) (θ : Th) (h_0 : AC) (a_2319 : AC) (n : Nat) => ((Bool.rec (motive := fun _ => Bool) false (ih q_2320) (Bool.rec (motive := fun _ => Bool) (chkC tab fs θ h_0 a_2319) true (qC n h_0 a_2319))) : Bool)
noncomputable def chkHR (n : Nat) (tab : Tb) (fs : List Ln) (θ : Th) : AH → AH → Bool :=
  fun e_0 e_1 => List.rec (motive := fun _ => AH → Bool) (fun e_1 => (List.rec (motive := fun _ => Bool) true (fun x_2317 x_2318 _ => false) e_1)) (fun h_0 t_0 ih e_1 => (List.rec (motive := fun _ => Bool) false (fun a_2319 q_2320 _ => (chkHR_a0 ih q_2320 tab fs θ h_0 a_2319 n)) e_1)) e_0 e_1
theorem chkHR_def (n : Nat) (tab : Tb) (fs : List Ln) (θ : Th) (e_0 : AH) (e_1 : AH) : chkHR n tab fs θ e_0 e_1 = (match e_0, e_1 with
  | [], [] => true
  | p :: r, a :: q => bif (bif qC n p a then true else chkC tab fs θ p a) then chkHR n tab fs θ r q else false
  | _, _ => false) := by
  cases e_0 with
  | nil =>
    show (List.rec (motive := fun _ => Bool) true (fun x_2321 x_2322 _ => false) e_1) = _
    try simp only [iAddQ_eq, iMulQ_eq, iNegQ_eq, lenQ_eq, nthQ_eq, setQ_eq, appQ_eq, mapQ_eq, allQ_eq, anyQ_eq, dropQ_eq, takeQ_eq, revQ_eq, getDQ_eq, optLQ_eq, brecC]
    all_goals
      cases e_1 with
      | nil =>
        try dsimp only [cond_false, cond_true]
        all_goals rfl
      | cons y_2323 y_2324 =>
        try dsimp only [cond_false, cond_true]
        all_goals rfl
  | cons h_0 t_0 =>
    show (List.rec (motive := fun _ => Bool) false (fun a_2325 q_2326 _ => (Bool.rec (motive := fun _ => Bool) false (chkHR n tab fs θ t_0 q_2326) (Bool.rec (motive := fun _ => Bool) (chkC tab fs θ h_0 a_2325) true (qC n h_0 a_2325)))) e_1) = _
    try simp only [iAddQ_eq, iMulQ_eq, iNegQ_eq, lenQ_eq, nthQ_eq, setQ_eq, appQ_eq, mapQ_eq, allQ_eq, anyQ_eq, dropQ_eq, takeQ_eq, revQ_eq, getDQ_eq, optLQ_eq, brecC]
    all_goals
      cases e_1 with
      | nil =>
        try dsimp only [cond_false, cond_true]
        all_goals rfl
      | cons y_2327 y_2328 =>
        try dsimp only [cond_false, cond_true]
        all_goals
          cases hq_3 : ((bif (qC n h_0 y_2327) then true else (chkC tab fs θ h_0 y_2327))) with
          | false =>
            try dsimp only [cond_false, cond_true]
            all_goals rfl
          | true =>
            try dsimp only [cond_false, cond_true]
            all_goals rfl
noncomputable def isSy_a0 :=
  fun (ih : Nat → List Ln → Bool) (e_1 : Nat) (r_2332 : List Ln) (e_2331 : Ln) => ((Bool.rec (motive := fun _ => Bool) false (ih (Nat.succ e_1) r_2332) (Bool.rec (motive := fun _ => Bool) false (Nat.beq (fstS e_2331) e_1) (isS1 e_2331))) : Bool)
noncomputable def isSy  : Nat → Nat → List Ln → Bool :=
  fun e_0 e_1 e_2 => Nat.rec (motive := fun _ => Nat → List Ln → Bool) (fun e_1 e_2 => (List.rec (motive := fun _ => Bool) true (fun x_2329 x_2330 _ => false) e_2)) (fun t_0 ih e_1 e_2 => (List.rec (motive := fun _ => Bool) false (fun e_2331 r_2332 _ => (isSy_a0 ih e_1 r_2332 e_2331)) e_2)) e_0 e_1 e_2
theorem isSy_def  (e_0 : Nat) (e_1 : Nat) (e_2 : List Ln) : isSy  e_0 e_1 e_2 = (match e_0, e_1, e_2 with
  | 0, _, [] => true
  | n + 1, i, e :: r => bif (bif isS1 e then Nat.beq (fstS e) i else false) then isSy n (Nat.succ i) r else false
  | _, _, _ => false) := by
  cases e_0 with
  | zero =>
    show (List.rec (motive := fun _ => Bool) true (fun x_2333 x_2334 _ => false) e_2) = _
    try simp only [iAddQ_eq, iMulQ_eq, iNegQ_eq, lenQ_eq, nthQ_eq, setQ_eq, appQ_eq, mapQ_eq, allQ_eq, anyQ_eq, dropQ_eq, takeQ_eq, revQ_eq, getDQ_eq, optLQ_eq, brecC]
    all_goals
      cases e_2 with
      | nil =>
        try dsimp only [cond_false, cond_true]
        all_goals rfl
      | cons y_2335 y_2336 =>
        try dsimp only [cond_false, cond_true]
        all_goals rfl
  | succ t_0 =>
    show (List.rec (motive := fun _ => Bool) false (fun e_2337 r_2338 _ => (Bool.rec (motive := fun _ => Bool) false (isSy t_0 (Nat.succ e_1) r_2338) (Bool.rec (motive := fun _ => Bool) false (Nat.beq (fstS e_2337) e_1) (isS1 e_2337)))) e_2) = _
    try simp only [iAddQ_eq, iMulQ_eq, iNegQ_eq, lenQ_eq, nthQ_eq, setQ_eq, appQ_eq, mapQ_eq, allQ_eq, anyQ_eq, dropQ_eq, takeQ_eq, revQ_eq, getDQ_eq, optLQ_eq, brecC]
    all_goals
      cases e_2 with
      | nil =>
        try dsimp only [cond_false, cond_true]
        all_goals rfl
      | cons y_2339 y_2340 =>
        try dsimp only [cond_false, cond_true]
        all_goals
          cases hq_3 : ((bif (isS1 y_2339) then (Nat.beq ((fstS y_2339)) e_1) else false)) with
          | false =>
            try dsimp only [cond_false, cond_true]
            all_goals rfl
          | true =>
            try dsimp only [cond_false, cond_true]
            all_goals rfl
noncomputable def rigF (n : Nat) (f : Th) (s : Nat) : Ln :=
  (Bool.rec (motive := fun _ => Ln) (f s) (sL s) (Nat.blt s n))
theorem rigF_def (n : Nat) (f : Th) (s : Nat) : rigF n f s = bif Nat.blt s n then sL s else f s := by
  show (Bool.rec (motive := fun _ => Ln) (f s) (sL s) (Nat.blt s n)) = _
  try simp only [iAddQ_eq, iMulQ_eq, iNegQ_eq, lenQ_eq, nthQ_eq, setQ_eq, appQ_eq, mapQ_eq, allQ_eq, anyQ_eq, dropQ_eq, takeQ_eq, revQ_eq, getDQ_eq, optLQ_eq, brecC]
  all_goals
    cases hq_1 : (Nat.blt s n) with
    | false =>
      try dsimp only [cond_false, cond_true]
      all_goals rfl
    | true =>
      try dsimp only [cond_false, cond_true]
      all_goals rfl
noncomputable def unR (n : Nat) : Un :=
  ((Nat.sub (Nat.shiftLeft (nat_lit 1) n) (nat_lit 1)), [])
theorem unR_def (n : Nat) : unR n = (Nat.sub (Nat.shiftLeft 1 n) 1, []) := by
  show ((Nat.sub (Nat.shiftLeft (nat_lit 1) n) (nat_lit 1)), []) = _
  all_goals rfl
noncomputable def withR (n : Nat) (θ : Un) (k : Th → Bool) : Bool :=
  (Prod.rec (motive := fun _ => Bool) (fun x_2345 x_2346 => (Prod.rec (motive := fun _ => Bool) (fun f_2347 x_2348 => (k (rigF n f_2347))) x_2346)) (balF (nat_lit 9) θ.2))
theorem withR_def (n : Nat) (θ : Un) (k : Th → Bool) : withR n θ k = (match balF 9 θ.2 with
  | (_, f, _) => k (rigF n f)) := by
  show (Prod.rec (motive := fun _ => Bool) (fun x_2341 x_2342 => (Prod.rec (motive := fun _ => Bool) (fun f_2343 x_2344 => (k (rigF n f_2343))) x_2342)) (balF (nat_lit 9) θ.2)) = _
  all_goals
    cases hq_1 : (balF 9 θ.2) with
    | mk y_2349 y_2350 =>
      try dsimp only [cond_false, cond_true]
      all_goals
        cases y_2350 with
        | mk y_2351 y_2352 =>
          try dsimp only [cond_false, cond_true]
          all_goals rfl
noncomputable def instPR_a0 :=
  fun (tab : Tb) (fs : List Ln) (θ : Th) (pr : List PD) (P : Pt) => ((Bool.rec (motive := fun _ => Bool) false (chkP tab fs θ pr P.2.2.2.2.2) (chkF tab fs θ P.2.2.1)) : Bool)
noncomputable def instPR_a1 :=
  fun (tab : Tb) (fs : List Ln) (θ : Th) (pr : List PD) (P : Pt) => ((Bool.rec (motive := fun _ => Bool) false (instPR_a0 tab fs θ pr P) (chkT tab fs θ P.2.1)) : Bool)
noncomputable def instPR_a2 :=
  fun (tab : Tb) (fs : List Ln) (θ : Th) (pr : List PD) (P : Pt) (n : Nat) (A : AH) => ((Bool.rec (motive := fun _ => Bool) false (instPR_a1 tab fs θ pr P) (chkHR n tab fs θ P.2.2.2.2.1 A)) : Bool)
noncomputable def instPR (n : Nat) (tab : Tb) (fs : List Ln) (θ : Th) (P : Pt) (vs : List AV) (A : AH) (pr : List PD) : Bool :=
  (Bool.rec (motive := fun _ => Bool) false (instPR_a2 tab fs θ pr P n A) (chkVs tab fs θ P.2.2.2.1 vs))
theorem instPR_def (n : Nat) (tab : Tb) (fs : List Ln) (θ : Th) (P : Pt) (vs : List AV) (A : AH) (pr : List PD) : instPR n tab fs θ P vs A pr = bif chkVs tab fs θ P.2.2.2.1 vs then (bif chkHR n tab fs θ P.2.2.2.2.1 A then (bif chkT tab fs θ P.2.1 then (bif chkF tab fs θ P.2.2.1 then chkP tab fs θ pr P.2.2.2.2.2 else false) else false) else false) else false := by
  show (Bool.rec (motive := fun _ => Bool) false (Bool.rec (motive := fun _ => Bool) false (Bool.rec (motive := fun _ => Bool) false (Bool.rec (motive := fun _ => Bool) false (chkP tab fs θ pr P.2.2.2.2.2) (chkF tab fs θ P.2.2.1)) (chkT tab fs θ P.2.1)) (chkHR n tab fs θ P.2.2.2.2.1 A)) (chkVs tab fs θ P.2.2.2.1 vs)) = _
  try simp only [iAddQ_eq, iMulQ_eq, iNegQ_eq, lenQ_eq, nthQ_eq, setQ_eq, appQ_eq, mapQ_eq, allQ_eq, anyQ_eq, dropQ_eq, takeQ_eq, revQ_eq, getDQ_eq, optLQ_eq, brecC]
  all_goals
    cases hq_1 : (chkVs tab fs θ P.2.2.2.1 vs) with
    | false =>
      try dsimp only [cond_false, cond_true]
      all_goals rfl
    | true =>
      try dsimp only [cond_false, cond_true]
      all_goals
        cases hq_2 : (chkHR n tab fs θ P.2.2.2.2.1 A) with
        | false =>
          try dsimp only [cond_false, cond_true]
          all_goals rfl
        | true =>
          try dsimp only [cond_false, cond_true]
          all_goals
            cases hq_3 : (chkT tab fs θ P.2.1) with
            | false =>
              try dsimp only [cond_false, cond_true]
              all_goals rfl
            | true =>
              try dsimp only [cond_false, cond_true]
              all_goals
                cases hq_4 : (chkF tab fs θ P.2.2.1) with
                | false =>
                  try dsimp only [cond_false, cond_true]
                  all_goals rfl
                | true =>
                  try dsimp only [cond_false, cond_true]
                  all_goals rfl
noncomputable def instP_a0 :=
  fun (tab : Tb) (fs : List Ln) (θ : Th) (pr : List PD) (P : Pt) => ((Bool.rec (motive := fun _ => Bool) false (chkP tab fs θ pr P.2.2.2.2.2) (chkF tab fs θ P.2.2.1)) : Bool)
noncomputable def instP_a1 :=
  fun (tab : Tb) (fs : List Ln) (θ : Th) (pr : List PD) (P : Pt) => ((Bool.rec (motive := fun _ => Bool) false (instP_a0 tab fs θ pr P) (chkT tab fs θ P.2.1)) : Bool)
noncomputable def instP_a2 :=
  fun (tab : Tb) (fs : List Ln) (θ : Th) (pr : List PD) (P : Pt) (A : AH) => ((Bool.rec (motive := fun _ => Bool) false (instP_a1 tab fs θ pr P) (chkH tab fs θ P.2.2.2.2.1 A)) : Bool)
noncomputable def instP (tab : Tb) (fs : List Ln) (θ : Th) (P : Pt) (vs : List AV) (A : AH) (pr : List PD) : Bool :=
  (Bool.rec (motive := fun _ => Bool) false (instP_a2 tab fs θ pr P A) (chkVs tab fs θ P.2.2.2.1 vs))
theorem instP_def (tab : Tb) (fs : List Ln) (θ : Th) (P : Pt) (vs : List AV) (A : AH) (pr : List PD) : instP tab fs θ P vs A pr = bif chkVs tab fs θ P.2.2.2.1 vs then (bif chkH tab fs θ P.2.2.2.2.1 A then (bif chkT tab fs θ P.2.1 then (bif chkF tab fs θ P.2.2.1 then chkP tab fs θ pr P.2.2.2.2.2 else false) else false) else false) else false := by
  show (Bool.rec (motive := fun _ => Bool) false (Bool.rec (motive := fun _ => Bool) false (Bool.rec (motive := fun _ => Bool) false (Bool.rec (motive := fun _ => Bool) false (chkP tab fs θ pr P.2.2.2.2.2) (chkF tab fs θ P.2.2.1)) (chkT tab fs θ P.2.1)) (chkH tab fs θ P.2.2.2.2.1 A)) (chkVs tab fs θ P.2.2.2.1 vs)) = _
  try simp only [iAddQ_eq, iMulQ_eq, iNegQ_eq, lenQ_eq, nthQ_eq, setQ_eq, appQ_eq, mapQ_eq, allQ_eq, anyQ_eq, dropQ_eq, takeQ_eq, revQ_eq, getDQ_eq, optLQ_eq, brecC]
  all_goals
    cases hq_1 : (chkVs tab fs θ P.2.2.2.1 vs) with
    | false =>
      try dsimp only [cond_false, cond_true]
      all_goals rfl
    | true =>
      try dsimp only [cond_false, cond_true]
      all_goals
        cases hq_2 : (chkH tab fs θ P.2.2.2.2.1 A) with
        | false =>
          try dsimp only [cond_false, cond_true]
          all_goals rfl
        | true =>
          try dsimp only [cond_false, cond_true]
          all_goals
            cases hq_3 : (chkT tab fs θ P.2.1) with
            | false =>
              try dsimp only [cond_false, cond_true]
              all_goals rfl
            | true =>
              try dsimp only [cond_false, cond_true]
              all_goals
                cases hq_4 : (chkF tab fs θ P.2.2.1) with
                | false =>
                  try dsimp only [cond_false, cond_true]
                  all_goals rfl
                | true =>
                  try dsimp only [cond_false, cond_true]
                  all_goals rfl
noncomputable def thOf (tab : Tb) (fs : List Ln) (P : Pt) (vs : List AV) (A : AH) (pr : List PD) : Un :=
  (uniP tab fs pr (uniH (uniVs un0 P.2.2.2.1 vs) P.2.2.2.2.1 A) P.2.2.2.2.2)
theorem thOf_def (tab : Tb) (fs : List Ln) (P : Pt) (vs : List AV) (A : AH) (pr : List PD) : thOf tab fs P vs A pr = uniP tab fs pr (uniH (uniVs un0 P.2.2.2.1 vs) P.2.2.2.2.1 A) P.2.2.2.2.2 := by
  show (uniP tab fs pr (uniH (uniVs un0 P.2.2.2.1 vs) P.2.2.2.2.1 A) P.2.2.2.2.2) = _
  all_goals rfl
section PAT
variable {ρ : Nat → Int} {tab : Tb} {fs : List Ln} {θ : Th}
noncomputable abbrev thE (ρ : Nat → Int) (θ : Th) : Nat → Int := fun s => ev ρ (θ s)
theorem eqLθ (ht : tOk ρ tab) (hf : fOk ρ fs) {e e' : Ln} (h : eqL tab fs (sbL θ e) e' = true) : ev (thE ρ θ) e = ev ρ e' := by
  rw [← eqL_ok ht hf h, ev_sb]
theorem chkV_ok (ht : tOk ρ tab) (hf : fOk ρ fs) {v : Value} {p a : AV} (ha : vrel ρ v a) (h : chkV tab fs θ p a = true) : vrel (thE ρ θ) v p := by
  rw [chkV_def] at h
  split at h
  · rename_i b e b' e'
    cases hb : lnB b b' with
    | false => rw [hb] at h; cases h
    | true =>
      rw [hb] at h
      have := lnB_eq hb
      subst this
      cases b with
      | false => obtain ⟨x, e1, e2⟩ := ha; exact ⟨x, e1, e2.trans (eqLθ ht hf h).symm⟩
      | true => obtain ⟨x, e1, e2⟩ := ha; exact ⟨x, e1, e2.trans (eqLθ ht hf h).symm⟩
  · rename_i i j
    have := Nat.eq_of_beq_eq_true h
    subst this
    exact ha
  · exact ha
  · cases h
theorem chkVs_ok (ht : tOk ρ tab) (hf : fOk ρ fs) {vs : List Value} {ps as : List AV} (ha : rel2 (vrel ρ) vs as) (h : chkVs tab fs θ ps as = true) : rel2 (vrel (thE ρ θ)) vs ps := by
  induction ps generalizing vs as with
  | nil =>
    cases as with
    | nil => rw [rel2_nil ha]; exact trivial
    | cons a r => cases h
  | cons p r ih =>
    cases as with
    | nil => cases h
    | cons a q =>
      rw [chkVs_def] at h
      try dsimp only at h
      cases hc : chkV tab fs θ p a with
      | false => rw [hc] at h; cases h
      | true =>
        rw [hc] at h
        obtain ⟨v, vs', e, h1, h2⟩ := rel2_cons ha
        subst e
        exact ⟨chkV_ok ht hf h1 hc, ih h2 h⟩
theorem srel_zero {ρ : Nat → Int} {lo hi : Int} {r : List Sg} {l : List Int32} (h : srel ρ r l) : srel ρ (.inr (0, lo, hi) :: r) l := ⟨[], l, rfl, rfl, fun x hx => (by cases hx), h⟩
theorem srel_zero' {ρ : Nat → Int} {lo hi : Int} {r : List Sg} {l : List Int32} (h : srel ρ (.inr (0, lo, hi) :: r) l) : srel ρ r l := by
  obtain ⟨l1, l2, e1, e2, e3, e4⟩ := h
  have := List.length_eq_zero_iff.mp e2
  subst this
  subst e1
  exact e4
theorem srel_split {ρ : Nat → Int} {m k : Nat} {lo hi : Int} {r : List Sg} {l : List Int32} (h : srel ρ (.inr (m + k, lo, hi) :: r) l) : ∃ l1 l2, l = l1 ++ l2 ∧ l1.length = m ∧ (∀ x ∈ l1, lo ≤ x.toInt ∧ x.toInt ≤ hi) ∧ srel ρ (.inr (k, lo, hi) :: r) l2 := by
  obtain ⟨l1, l2, e1, e2, e3, e4⟩ := h
  subst e1
  refine ⟨l1.take m, l1.drop m ++ l2, by rw [← List.append_assoc, List.take_append_drop], by rw [List.length_take]; omega, fun x hx => e3 x (List.mem_of_mem_take hx), l1.drop m, l2, rfl, by rw [List.length_drop]; omega, fun x hx => e3 x (List.mem_of_mem_drop hx), e4⟩
theorem srel_join {ρ : Nat → Int} {m k : Nat} {lo hi : Int} {r : List Sg} {l1 l2 : List Int32} (h1 : l1.length = m) (h2 : ∀ x ∈ l1, lo ≤ x.toInt ∧ x.toInt ≤ hi) (h : srel ρ (.inr (k, lo, hi) :: r) l2) : srel ρ (.inr (m + k, lo, hi) :: r) (l1 ++ l2) := by
  obtain ⟨l3, l4, e1, e2, e3, e4⟩ := h
  subst e1
  refine ⟨l1 ++ l3, l4, by rw [List.append_assoc], by rw [List.length_append]; omega, fun x hx => ?_, e4⟩
  rcases List.mem_append.mp hx with q | q
  · exact h2 x q
  · exact e3 x q
theorem sgLe_ok (ht : tOk ρ tab) (hf : fOk ρ fs) : ∀ (n : Nat) (p a : List Sg) (l : List Int32), sgLe tab fs θ n p a = true → srel ρ a l → srel (thE ρ θ) p l := by
  intro n
  induction n with
  | zero => intro p a l h; cases h
  | succ n ih =>
    intro p a l h hl
    rw [sgLe_def] at h
    try dsimp only at h
    split at h
    · exact hl
    · rename_i e r e' q
      cases hc : eqL tab fs (sbL θ e) e' with
      | false => rw [hc] at h; cases h
      | true =>
        rw [hc] at h
        obtain ⟨x, l', e1, e2, h3⟩ := hl
        exact ⟨x, l', e1, e2.trans (eqLθ ht hf hc).symm, ih _ _ _ h h3⟩
    · rename_i e r m lo hi q
      split at h
      · exact ih _ _ _ h (srel_zero' hl)
      · rename_i m
        cases hc : eqI lo hi with
        | false => rw [hc] at h; cases h
        | true =>
          rw [hc] at h
          cases hd : eqL tab fs (sbL θ e) (kL lo) with
          | false => rw [hd] at h; cases h
          | true =>
            rw [hd] at h
            have := eqI_eq hc
            subst this
            rw [show Nat.succ m = 1 + m by omega] at hl
            obtain ⟨l1, l2, e1, e2, e3, e4⟩ := srel_split hl
            match l1, e2 with
            | [x], _ =>
              have e5 := e3 x List.mem_cons_self
              exact ⟨x, l2, e1, by rw [eqLθ ht hf hd, ev_k]; omega, ih _ _ _ h e4⟩
    · rename_i m lo hi r
      cases hc : Nat.beq m 0 with
      | false => rw [hc] at h; cases h
      | true =>
        rw [hc] at h
        have := Nat.eq_of_beq_eq_true hc
        subst this
        exact srel_zero (ih _ _ _ h hl)
    · rename_i m lo hi q
      cases hc : Nat.beq m 0 with
      | false => rw [hc] at h; cases h
      | true =>
        rw [hc] at h
        have := Nat.eq_of_beq_eq_true hc
        subst this
        exact ih _ _ _ h (srel_zero' hl)
    · rename_i m lo hi r e' q
      split at h
      · exact srel_zero (ih _ _ _ h hl)
      · rename_i m
        cases hc : inF tab fs lo hi e' with
        | false => rw [hc] at h; cases h
        | true =>
          rw [hc] at h
          obtain ⟨x, l', e1, e2, h3⟩ := hl
          have e5 := inF_ok ht hf hc
          subst e1
          rw [show Nat.succ m = 1 + m by omega]
          exact srel_join (l1 := [x]) rfl (fun y hy => by rw [List.mem_singleton.mp hy, e2]; exact e5) (ih _ _ _ h h3)
    · rename_i m lo hi r m' lo' hi' q
      cases hc : (bif Nat.beq m' 0 then true else bif Nat.beq m 0 then true else bif leI lo lo' then leI hi' hi else false) with
      | false => rw [hc] at h; cases h
      | true =>
        rw [hc] at h
        have fit : ∀ (k : Nat) (l1 : List Int32), l1.length = k → k ≤ m → k ≤ m' → (∀ x ∈ l1, lo' ≤ x.toInt ∧ x.toInt ≤ hi') → ∀ x ∈ l1, lo ≤ x.toInt ∧ x.toInt ≤ hi := by
          intro k l1 hk h1 h2 hx x hxm
          have hpos : 0 < l1.length := List.length_pos_of_mem hxm
          cases z1 : Nat.beq m' 0 with
          | true => have := Nat.eq_of_beq_eq_true z1; omega
          | false =>
            cases z2 : Nat.beq m 0 with
            | true => have := Nat.eq_of_beq_eq_true z2; omega
            | false =>
              rw [z1, z2] at hc
              simp only [cond_false] at hc
              cases z3 : leI lo lo' with
              | false => rw [z3] at hc; cases hc
              | true =>
                rw [z3] at hc
                have q1 := leI_le z3
                have q2 := leI_le hc
                have q3 := hx x hxm
                omega
        simp only [cond_true] at h
        cases hd : Nat.ble m m' with
        | true =>
          rw [hd] at h
          have hle := Nat.le_of_ble_eq_true hd
          simp only [cond_true] at h
          cases he : Nat.beq m m' with
          | true =>
            rw [he] at h
            have := Nat.eq_of_beq_eq_true he
            subst this
            obtain ⟨l1, l2, e1, e2, e3, e4⟩ := hl
            exact ⟨l1, l2, e1, e2, fit m l1 e2 (Nat.le_refl _) (Nat.le_refl _) e3, ih _ _ _ h e4⟩
          | false =>
            rw [he] at h
            have e0 : m' = m + Nat.sub m' m := by show m' = m + (m' - m); omega
            rw [e0] at hl
            obtain ⟨l1, l2, e1, e2, e3, e4⟩ := srel_split hl
            exact ⟨l1, l2, e1, e2, fit m l1 e2 (Nat.le_refl _) hle e3, ih _ _ _ h e4⟩
        | false =>
          rw [hd] at h
          have hlt : m' < m := Nat.lt_of_not_le fun q => by rw [Nat.ble_eq_true_of_le q] at hd; cases hd
          obtain ⟨l1, l2, e1, e2, e3, e4⟩ := hl
          subst e1
          have e0 : m = m' + Nat.sub m m' := by show m = m' + (m - m'); omega
          rw [e0]
          exact srel_join e2 (fit m' l1 e2 (by omega) (Nat.le_refl _) e3) (ih _ _ _ h e4)
    · cases h
theorem eqO_eq {a b : List (Option Nat)} (h : eqO a b = true) : a = b := by
  induction a generalizing b with
  | nil => cases b with
    | nil => rfl
    | cons q r => cases h
  | cons p r ih => cases b with
    | nil => cases p <;> cases h
    | cons q r' =>
      cases p with
      | none => cases q with
        | none => rw [ih h]
        | some j => cases h
      | some i => cases q with
        | none => cases h
        | some j =>
          rw [eqO_def] at h
          try dsimp only at h
          cases h1 : Nat.beq i j with
          | false => rw [h1] at h; cases h
          | true => rw [h1] at h; rw [Nat.eq_of_beq_eq_true h1, ih h]
theorem eqN_eq {a b : List Nat} (h : eqN a b = true) : a = b := by
  induction a generalizing b with
  | nil => cases b with
    | nil => rfl
    | cons q r => cases h
  | cons p r ih => cases b with
    | nil => cases h
    | cons q r' =>
      rw [eqN_def] at h
      try dsimp only at h
      cases h1 : Nat.beq p q with
      | false => rw [h1] at h; cases h
      | true => rw [h1] at h; rw [Nat.eq_of_beq_eq_true h1, ih h]
theorem chkC_ok (ht : tOk ρ tab) (hf : fOk ρ fs) {c : SC} {p a : AC} (ha : crel ρ c a) (h : chkC tab fs θ p a = true) : crel (thE ρ θ) c p := by
  rw [chkC_def] at h
  split at h
  · rename_i k l k' l'
    cases hb : Nat.beq k k' with
    | false => rw [hb] at h; cases h
    | true =>
      rw [hb] at h
      rw [Nat.eq_of_beq_eq_true hb]
      obtain ⟨f, e1, e2⟩ := ha
      exact ⟨f, e1, chkVs_ok ht hf e2 h⟩
  · rename_i k l k' l'
    cases hb : Nat.beq k k' with
    | false => rw [hb] at h; cases h
    | true =>
      rw [hb] at h
      have hkk := Nat.eq_of_beq_eq_true hb
      subst hkk
      have ha' : arel ρ k l' c := ha
      show arel (thE ρ θ) k l c
      unfold arel at ha' ⊢
      cases hk : Nat.blt k 100 with
      | true =>
        rw [hk] at h
        simp only [cond_true] at h
        rw [if_pos (blt_iff.mp hk)] at ha' ⊢
        obtain ⟨f, e1, e2⟩ := ha'
        exact ⟨f, e1, sgLe_ok ht hf _ _ _ _ h e2⟩
      | false =>
        rw [hk] at h
        have hn : ¬ k < 100 := Nat.not_lt.mpr (blt_f hk)
        rw [if_neg hn] at ha' ⊢
        obtain ⟨f, e1, e2⟩ := ha'
        refine ⟨f, e1, ?_⟩
        simp only [cond_true, cond_false] at h
        rw [conLe_def] at h
        split at h
        · exact Eq.trans e2 (eqLθ ht hf h).symm
        · cases h
  · rename_i k l k' l'
    cases hb : Nat.beq k k' with
    | false => rw [hb] at h; cases h
    | true =>
      rw [hb] at h
      rw [Nat.eq_of_beq_eq_true hb]
      obtain ⟨f, e1, e2⟩ := ha
      simp only [cond_true] at h
      cases hc : Nat.beq l l' with
      | true => exact ⟨f, e1, by rw [Nat.eq_of_beq_eq_true hc]; exact e2⟩
      | false =>
        rw [hc, cond_false] at h
        cases hd : Nat.blt l zB with
        | false => rw [hd] at h; cases h
        | true =>
          rw [hd, cond_true] at h
          have e3 : l' = Nat.add zB l := Nat.eq_of_beq_eq_true h
          have hd' := blt_iff.mp hd
          refine ⟨f, e1, ?_, fun h2 => by rw [hd] at h2; cases h2⟩
          rw [e2.1, e3, jLen_add hd', jLen_lt hd]
  · rename_i k l k' l'
    cases hb : Nat.beq k k' with
    | false => rw [hb] at h; cases h
    | true =>
      rw [hb] at h
      rw [Nat.eq_of_beq_eq_true hb, eqO_eq h]
      exact ha
  · cases h
theorem chkH_ok (ht : tOk ρ tab) (hf : fOk ρ fs) {σ : SH} {ps as : AH} (ha : rel2 (crel ρ) σ as) (h : chkH tab fs θ ps as = true) : rel2 (crel (thE ρ θ)) σ ps := by
  induction ps generalizing σ as with
  | nil =>
    cases as with
    | nil => rw [rel2_nil ha]; exact trivial
    | cons a r => cases h
  | cons p r ih =>
    cases as with
    | nil => cases h
    | cons a q =>
      rw [chkH_def] at h
      try dsimp only at h
      cases hc : chkC tab fs θ p a with
      | false => rw [hc] at h; cases h
      | true =>
        rw [hc] at h
        obtain ⟨v, vs', e, h1, h2⟩ := rel2_cons ha
        subst e
        exact ⟨chkC_ok ht hf h1 hc, ih h2 h⟩
theorem chkN_ok (ht : tOk ρ tab) (hf : fOk ρ fs) {ps as : List Ln} (h : chkN tab fs θ ps as = true) : ps.map (ev (thE ρ θ)) = as.map (ev ρ) := by
  induction ps generalizing as with
  | nil =>
    cases as with
    | nil => rfl
    | cons a r => cases h
  | cons p r ih =>
    cases as with
    | nil => cases h
    | cons a q =>
      rw [chkN_def] at h
      try dsimp only at h
      cases h1 : eqL tab fs (sbL θ p) a with
      | false => rw [h1] at h; cases h
      | true =>
        rw [h1] at h
        rw [List.map_cons, List.map_cons, ih h, eqLθ ht hf h1]
theorem hasP_mem (ht : tOk ρ tab) (hf : fOk ρ fs) {p : PD} {a : List PD} (h : hasP tab fs θ p a = true) : ∃ q ∈ a, p.1 = q.1 ∧ p.2.1 = q.2.1 ∧ p.2.2.map (ev (thE ρ θ)) = q.2.2.map (ev ρ) := by
  induction a with
  | nil => cases h
  | cons q r ih =>
    rw [hasP_def] at h
    try dsimp only at h
    cases h1 : (bif Nat.beq p.1 q.1 then (bif eqN p.2.1 q.2.1 then chkN tab fs θ p.2.2 q.2.2 else false) else false) with
    | false =>
      rw [h1] at h
      obtain ⟨q', q1, q2⟩ := ih h
      exact ⟨q', List.mem_cons_of_mem _ q1, q2⟩
    | true =>
      cases h2 : Nat.beq p.1 q.1 with
      | false => rw [h2] at h1; cases h1
      | true =>
        rw [h2] at h1
        cases h3 : eqN p.2.1 q.2.1 with
        | false => rw [h3] at h1; cases h1
        | true =>
          rw [h3] at h1
          exact ⟨q, List.mem_cons_self, Nat.eq_of_beq_eq_true h2, eqN_eq h3, chkN_ok ht hf h1⟩
theorem chkP_ok (ht : tOk ρ tab) (hf : fOk ρ fs) {a ps : List PD} (h : chkP tab fs θ a ps = true) : ∀ p ∈ ps, ∃ q ∈ a, p.1 = q.1 ∧ p.2.1 = q.2.1 ∧ p.2.2.map (ev (thE ρ θ)) = q.2.2.map (ev ρ) := by
  induction ps with
  | nil => intro p hp; cases hp
  | cons q r ih =>
    rw [chkP_def] at h
    try dsimp only at h
    cases h1 : hasP tab fs θ q a with
    | false => rw [h1] at h; cases h
    | true =>
      rw [h1] at h
      intro p hp
      rcases List.mem_cons.mp hp with rfl | hp
      · exact hasP_mem ht hf h1
      · exact ih h p hp
theorem chkT_ok (ht : tOk ρ tab) (hf : fOk ρ fs) {ps : TbL} (h : chkT tab fs θ ps = true) : tOkL (thE ρ θ) ps := by
  induction ps with
  | nil => intro p hp; cases hp
  | cons q r ih =>
    obtain ⟨s, lo, hi⟩ := q
    rw [chkT_def] at h
    try dsimp only at h
    cases h1 : inF tab fs lo hi (θ s) with
    | false => rw [h1] at h; cases h
    | true =>
      rw [h1] at h
      intro p hp
      rcases List.mem_cons.mp hp with rfl | hp
      · exact inF_ok ht hf h1
      · exact ih h p hp
theorem chkF_ok (ht : tOk ρ tab) (hf : fOk ρ fs) {ps : List Ln} (h : chkF tab fs θ ps = true) : fOk (thE ρ θ) ps := by
  induction ps with
  | nil => intro p hp; cases hp
  | cons q r ih =>
    rw [chkF_def] at h
    try dsimp only at h
    cases h1 : le0 tab fs (sbL θ q) with
    | false => rw [h1] at h; cases h
    | true =>
      rw [h1] at h
      intro p hp
      rcases List.mem_cons.mp hp with rfl | hp
      · have := le0_ok ht hf h1
        rw [ev_sb] at this
        exact this
      · exact ih h p hp
theorem instP_ok {PP : Nat → List (List Int32) → List Int → Prop} {P : Pt} {vs : List AV} {A : AH} {pr : List PD} {cvs : List Value} {σ : SH} (ht : tOk ρ tab) (hf : fOk ρ fs) (hv : rel2 (vrel ρ) cvs vs) (hA : rel2 (crel ρ) σ A) (hp : prOk PP ρ σ pr) (h : instP tab fs θ P vs A pr = true) : PtOk PP (thE ρ θ) P cvs σ := by
  rw [instP_def] at h
  cases h1 : chkVs tab fs θ P.2.2.2.1 vs with
  | false => rw [h1] at h; cases h
  | true =>
    rw [h1] at h
    cases h2 : chkH tab fs θ P.2.2.2.2.1 A with
    | false => rw [h2] at h; cases h
    | true =>
      rw [h2] at h
      cases h3 : chkT tab fs θ P.2.1 with
      | false => rw [h3] at h; cases h
      | true =>
        rw [h3] at h
        cases h4 : chkF tab fs θ P.2.2.1 with
        | false => rw [h4] at h; cases h
        | true =>
          rw [h4] at h
          exact ⟨chkT_ok ht hf h3, chkF_ok ht hf h4, chkVs_ok ht hf hv h1, chkH_ok ht hf hA h2, fun p hq => (by
            obtain ⟨q, q1, q2, q3, q4⟩ := chkP_ok ht hf h p hq
            rw [q2, q3, q4]
            exact hp q q1)⟩
end PAT
-- which symbols a pattern speaks of
noncomputable def scP_a0 :=
  fun (P : Pt) => ((allQ (fun p => (allQ (scL P.1) p.2.2)) P.2.2.2.2.2) : Bool)
noncomputable def scP_a1 :=
  fun (P : Pt) => ((Bool.rec (motive := fun _ => Bool) false (scP_a0 P) (allQ (scC P.1) P.2.2.2.2.1)) : Bool)
noncomputable def scP_a2 :=
  fun (P : Pt) => ((Bool.rec (motive := fun _ => Bool) false (scP_a1 P) (allQ (scV P.1) P.2.2.2.1)) : Bool)
noncomputable def scP_a3 :=
  fun (P : Pt) => ((Bool.rec (motive := fun _ => Bool) false (scP_a2 P) (allQ (scL P.1) P.2.2.1)) : Bool)
noncomputable def scP (P : Pt) : Bool :=
  (Bool.rec (motive := fun _ => Bool) false (scP_a3 P) (allQ (fun q => (Nat.blt q.1 P.1)) P.2.1))
theorem scP_def (P : Pt) : scP P = bif P.2.1.all (fun q => Nat.blt q.1 P.1) then (bif P.2.2.1.all (scL P.1) then (bif P.2.2.2.1.all (scV P.1) then (bif P.2.2.2.2.1.all (scC P.1) then P.2.2.2.2.2.all (fun p => p.2.2.all (scL P.1)) else false) else false) else false) else false := by
  show (Bool.rec (motive := fun _ => Bool) false (Bool.rec (motive := fun _ => Bool) false (Bool.rec (motive := fun _ => Bool) false (Bool.rec (motive := fun _ => Bool) false (allQ (fun p => (allQ (scL P.1) p.2.2)) P.2.2.2.2.2) (allQ (scC P.1) P.2.2.2.2.1)) (allQ (scV P.1) P.2.2.2.1)) (allQ (scL P.1) P.2.2.1)) (allQ (fun q => (Nat.blt q.1 P.1)) P.2.1)) = _
  try simp only [iAddQ_eq, iMulQ_eq, iNegQ_eq, lenQ_eq, nthQ_eq, setQ_eq, appQ_eq, mapQ_eq, allQ_eq, anyQ_eq, dropQ_eq, takeQ_eq, revQ_eq, getDQ_eq, optLQ_eq, brecC]
  all_goals
    cases hq_1 : (P.2.1.all ((fun q => (Nat.blt q.1 P.1)))) with
    | false =>
      try dsimp only [cond_false, cond_true]
      all_goals rfl
    | true =>
      try dsimp only [cond_false, cond_true]
      all_goals
        cases hq_2 : (P.2.2.1.all ((scL P.1))) with
        | false =>
          try dsimp only [cond_false, cond_true]
          all_goals rfl
        | true =>
          try dsimp only [cond_false, cond_true]
          all_goals
            cases hq_3 : (P.2.2.2.1.all ((scV P.1))) with
            | false =>
              try dsimp only [cond_false, cond_true]
              all_goals rfl
            | true =>
              try dsimp only [cond_false, cond_true]
              all_goals
                cases hq_4 : (P.2.2.2.2.1.all ((scC P.1))) with
                | false =>
                  try dsimp only [cond_false, cond_true]
                  all_goals rfl
                | true =>
                  try dsimp only [cond_false, cond_true]
                  all_goals rfl
section SC
variable {n : Nat} {ρ ρ' : Nat → Int}
theorem scV_ok (ha : agr2 n ρ ρ') {v : Value} {a : AV} (hs : scV n a = true) (h : vrel ρ v a) : vrel ρ' v a := by
  match a, h with
  | .inl (false, e), ⟨x, e1, e2⟩ => exact ⟨x, e1, e2.trans (scL_ev ha hs).symm⟩
  | .inl (true, e), ⟨x, e1, e2⟩ => exact ⟨x, e1, e2.trans (scL_ev ha hs).symm⟩
  | .inr (.inl (some i)), e1 => exact e1
  | .inr (.inl none), e1 => exact e1
  | .inr (.inr (p, q)), e1 =>
    have hs' : (bif scL n p then scL n q else false) = true := by
      rw [scV_def] at hs
      exact hs
    cases h1 : scL n p with
    | false => rw [h1] at hs'; cases hs'
    | true =>
      rw [h1] at hs'
      show v = .int (cmpZ (ev ρ' p) (ev ρ' q))
      rw [scL_ev ha h1, scL_ev ha hs']
      exact e1
theorem rel2_all {α β : Type} {R R' : α → β → Prop} {f : β → Bool} (hi : ∀ a b, f b = true → R a b → R' a b) {l : List α} {r : List β} (hr : r.all f = true) (h : rel2 R l r) : rel2 R' l r := by
  induction r generalizing l with
  | nil => rw [rel2_nil h]; exact trivial
  | cons b r ih =>
    obtain ⟨a, l', e, h1, h2⟩ := rel2_cons h
    subst e
    rw [List.all_cons, Bool.and_eq_true] at hr
    exact ⟨hi a b hr.1 h1, ih hr.2 h2⟩
theorem scS_ok (ha : agr2 n ρ ρ') {s : List Sg} {l : List Int32} (hs : s.all (scS n) = true) (h : srel ρ s l) : srel ρ' s l := by
  induction s generalizing l with
  | nil => exact h
  | cons q r ih =>
    rw [List.all_cons, Bool.and_eq_true] at hs
    match q, h, hs with
    | .inl e, ⟨x, l', e1, e2, h2⟩, hs => exact ⟨x, l', e1, e2.trans (scL_ev ha hs.1).symm, ih hs.2 h2⟩
    | .inr (m, lo, hi), ⟨l1, l2, e1, e2, e3, h2⟩, hs => exact ⟨l1, l2, e1, e2, e3, ih hs.2 h2⟩
theorem scC_ok (ha : agr2 n ρ ρ') {c : SC} {a : AC} (hs : scC n a = true) (h : crel ρ c a) : crel ρ' c a := by
  match a, h with
  | .inl (ci, as), ⟨fs, e, h'⟩ => exact ⟨fs, e, rel2_all (f := scV n) (R' := vrel ρ') (fun _ _ q r => scV_ok ha q r) (by rw [scC_def] at hs; exact hs) h'⟩
  | .inr (k, .inl s), h =>
    have h' : arel ρ k s c := h
    have hs : s.all (scS n) = true := by
      rw [scC_def] at hs
      exact hs
    show arel ρ' k s c
    unfold arel at h' ⊢
    split at h'
    · rename_i hk
      rw [if_pos hk]
      obtain ⟨l, e, h2⟩ := h'
      exact ⟨l, e, scS_ok ha hs h2⟩
    · rename_i hk
      rw [if_neg hk]
      obtain ⟨l, e, h2⟩ := h'
      refine ⟨l, e, ?_⟩
      match s, hs, h2 with
      | [.inl e], hs, h2 =>
        have hs' : ([Sum.inl e] : List Sg).all (scS n) = true := hs
        simp only [List.all_cons, List.all_nil, Bool.and_true, scS_def] at hs'
        exact Eq.trans h2 (scL_ev ha hs').symm
  | .inr (k, .inr (.inl m)), ⟨l, e, h'⟩ => exact ⟨l, e, h'⟩
  | .inr (k, .inr (.inr q)), e => exact e
end SC
theorem prOk_agr {PP : Nat → List (List Int32) → List Int → Prop} {n : Nat} {ρ ρ' : Nat → Int} {σ : SH} {pr : List PD} (ha : agr2 n ρ ρ') (hs : pr.all (fun p => p.2.2.all (scL n)) = true) (h : prOk PP ρ σ pr) : prOk PP ρ' σ pr := fun p hp => by
  have e : p.2.2.map (ev ρ') = p.2.2.map (ev ρ) := List.map_congr_left fun e he => scL_ev ha (List.all_eq_true.mp (List.all_eq_true.mp hs p hp) e he)
  rw [e]
  exact h p hp
theorem PtOk_agr {PP : Nat → List (List Int32) → List Int → Prop} {P : Pt} {ρ ρ' : Nat → Int} {vs : List Value} {σ : SH} (hs : scP P = true) (ha : agr2 P.1 ρ ρ') (h : PtOk PP ρ P vs σ) : PtOk PP ρ' P vs σ := by
  rw [scP_def] at hs
  obtain ⟨s1, hs⟩ := cand0 hs
  obtain ⟨s2, hs⟩ := cand0 hs
  obtain ⟨s3, hs⟩ := cand0 hs
  obtain ⟨s4, s5⟩ := cand0 hs
  obtain ⟨h1, h2, h3, h4, h5⟩ := h
  refine ⟨fun q hq => ?_, fun f hf => ?_, rel2_all (f := scV P.1) (R' := vrel ρ') (fun _ _ q r => scV_ok ha q r) s3 h3, rel2_all (f := scC P.1) (R' := crel ρ') (fun _ _ q r => scC_ok ha q r) s4 h4, prOk_agr ha s5 h5⟩
  · rw [ha q.1 (blt_iff.mp (List.all_eq_true.mp s1 q hq))]
    exact h1 q hq
  · rw [scL_ev ha (List.all_eq_true.mp s2 f hf)]
    exact h2 f hf
-- the same text: the same
theorem eqLn_eq {a b : Ln} (h : eqLn a b = true) : a = b := by
  rw [eqLn_def] at h
  obtain ⟨h1, h2⟩ := cand0 h
  obtain ⟨a1, a2⟩ := a
  obtain ⟨b1, b2⟩ := b
  have e1 : a1 = b1 := eqI_eq h1
  have e2 : a2 = b2 := eqT_eq h2
  rw [e1, e2]
theorem eqAV_eq {p a : AV} (h : eqAV p a = true) : p = a := by
  rw [eqAV_def] at h
  split at h
  · obtain ⟨h1, h2⟩ := cand0 h
    rw [lnB_eq h1, eqLn_eq h2]
  · rw [Nat.eq_of_beq_eq_true h]
  · rfl
  · cases h
theorem eqAVs_eq : ∀ {p a : List AV}, eqAVs p a = true → p = a := by
  intro p
  induction p with
  | nil => intro a h; cases a with
    | nil => rfl
    | cons x y => rw [eqAVs_def] at h; cases h
  | cons x r ih => intro a h; cases a with
    | nil => rw [eqAVs_def] at h; cases h
    | cons y q =>
      rw [eqAVs_def] at h
      obtain ⟨h1, h2⟩ := cand0 h
      rw [eqAV_eq h1, ih h2]
theorem eqSg_eq {p a : Sg} (h : eqSg p a = true) : p = a := by
  rw [eqSg_def] at h
  split at h
  · rw [eqLn_eq h]
  · obtain ⟨h1, h2⟩ := cand0 h
    obtain ⟨h3, h4⟩ := cand0 h2
    rw [Nat.eq_of_beq_eq_true h1, eqI_eq h3, eqI_eq h4]
  · cases h
theorem eqSgs_eq : ∀ {p a : List Sg}, eqSgs p a = true → p = a := by
  intro p
  induction p with
  | nil => intro a h; cases a with
    | nil => rfl
    | cons x y => rw [eqSgs_def] at h; cases h
  | cons x r ih => intro a h; cases a with
    | nil => rw [eqSgs_def] at h; cases h
    | cons y q =>
      rw [eqSgs_def] at h
      obtain ⟨h1, h2⟩ := cand0 h
      rw [eqSg_eq h1, ih h2]
theorem eqAC_eq {p a : AC} (h : eqAC p a = true) : p = a := by
  rw [eqAC_def] at h
  split at h
  · obtain ⟨h1, h2⟩ := cand0 h
    rw [Nat.eq_of_beq_eq_true h1, eqAVs_eq h2]
  · obtain ⟨h1, h2⟩ := cand0 h
    rw [Nat.eq_of_beq_eq_true h1, eqSgs_eq h2]
  · obtain ⟨h1, h2⟩ := cand0 h
    rw [Nat.eq_of_beq_eq_true h1, Nat.eq_of_beq_eq_true h2]
  · obtain ⟨h1, h2⟩ := cand0 h
    rw [Nat.eq_of_beq_eq_true h1, eqO_eq h2]
  · cases h
theorem rigF_lt {n : Nat} {f : Th} {s : Nat} (h : s < n) : rigF n f s = sL s := by
  rw [rigF_def]
  rw [blt_iff.mpr h]
  rfl
theorem rigF_agr {n : Nat} {f : Th} (ρ : Nat → Int) : agr2 n ρ (thE ρ (rigF n f)) := fun i hi => by
  show ev ρ (rigF n f i) = ρ i
  rw [rigF_lt hi, ev_s]
theorem withR_ok {n : Nat} {θ : Un} {k : Th → Bool} (h : withR n θ k = true) : ∃ f, k (rigF n f) = true := by
  rw [withR_def] at h
  split at h
  exact ⟨_, h⟩
theorem chkHR_ok {ρ : Nat → Int} {tab : Tb} {fs : List Ln} {n : Nat} {f : Th} (ht : tOk ρ tab) (hf : fOk ρ fs) {σ : SH} : ∀ {ps as : AH}, rel2 (crel ρ) σ as → chkHR n tab fs (rigF n f) ps as = true → rel2 (crel (thE ρ (rigF n f))) σ ps := by
  intro ps
  induction ps generalizing σ with
  | nil =>
    intro as ha h
    cases as with
    | nil => rw [rel2_nil ha]; exact trivial
    | cons a q => rw [chkHR_def] at h; cases h
  | cons p r ih =>
    intro as ha h
    cases as with
    | nil => rw [chkHR_def] at h; cases h
    | cons a q =>
      rw [chkHR_def] at h
      obtain ⟨h1, h2⟩ := cand0 h
      obtain ⟨c, σ', e, hc, hr⟩ := rel2_cons ha
      subst e
      refine ⟨?_, ih hr h2⟩
      cases hq : qC n p a with
      | false => rw [hq] at h1; exact chkC_ok ht hf hc h1
      | true =>
        rw [qC_def] at hq
        obtain ⟨-, hq⟩ := cand0 hq
        obtain ⟨q1, q2⟩ := cand0 hq
        have e := eqAC_eq q1
        subst e
        exact scC_ok (rigF_agr ρ) q2 hc
theorem instPR_ok {PP : Nat → List (List Int32) → List Int → Prop} {ρ : Nat → Int} {tab : Tb} {fs : List Ln} {n : Nat} {f : Th} {P : Pt} {vs : List AV} {A : AH} {pr : List PD} {cvs : List Value} {σ : SH} (ht : tOk ρ tab) (hf : fOk ρ fs) (hv : rel2 (vrel ρ) cvs vs) (hA : rel2 (crel ρ) σ A) (hp : prOk PP ρ σ pr) (h : instPR n tab fs (rigF n f) P vs A pr = true) : PtOk PP (thE ρ (rigF n f)) P cvs σ := by
  rw [instPR_def] at h
  obtain ⟨h1, h⟩ := cand0 h
  obtain ⟨h2, h⟩ := cand0 h
  obtain ⟨h3, h⟩ := cand0 h
  obtain ⟨h4, h5⟩ := cand0 h
  refine ⟨chkT_ok ht hf h3, chkF_ok ht hf h4, chkVs_ok ht hf hv h1, chkHR_ok ht hf hA h2, fun p hp' => ?_⟩
  obtain ⟨q, q1, q2, q3, q4⟩ := chkP_ok ht hf h5 p hp'
  rw [q2, q3, q4]
  exact hp q q1
theorem isS1_eq {e : Ln} (h : isS1 e = true) : e = sL (fstS e) := by
  obtain ⟨c, ts⟩ := e
  rw [isS1_def] at h
  try dsimp only at h
  split at h
  · rename_i s k
    obtain ⟨h1, h2⟩ := cand0 h
    have e1 := isZ_eq h1
    have e2 := eqI_eq h2
    subst e1
    subst e2
    rfl
  · cases h
theorem isSy_map {ρ : Nat → Int} {f : Th} {N : Nat} : ∀ (n i : Nat) (G : List Ln), i + n ≤ N → isSy n i G = true → G.map (ev (thE ρ (rigF N f))) = G.map (ev ρ) := by
  intro n
  induction n with
  | zero =>
    intro i G hN h
    cases G with
    | nil => rfl
    | cons e r => rw [isSy_def] at h; cases h
  | succ n ih =>
    intro i G hN h
    cases G with
    | nil => rw [isSy_def] at h; cases h
    | cons e r =>
      rw [isSy_def] at h
      obtain ⟨h1, h2⟩ := cand0 h
      obtain ⟨h3, h4⟩ := cand0 h1
      rw [List.map_cons, List.map_cons, ih (Nat.succ i) r (by omega) h2]
      have e1 := isS1_eq h3
      have e2 := Nat.eq_of_beq_eq_true h4
      rw [e1, ev_s, ev_s, e2]
      congr 1
      show ev ρ (rigF N f i) = ρ i
      rw [rigF_lt (by omega), ev_s]
theorem isSy_len : ∀ {n i : Nat} {G G' : List Ln}, isSy n i G = true → isSy n i G' = true → G = G' := by
  intro n
  induction n with
  | zero =>
    intro i G G' h h'
    cases G with
    | cons e r => rw [isSy_def] at h; cases h
    | nil => cases G' with
      | nil => rfl
      | cons e r => rw [isSy_def] at h'; cases h'
  | succ n ih =>
    intro i G G' h h'
    cases G with
    | nil => rw [isSy_def] at h; cases h
    | cons e r => cases G' with
      | nil => rw [isSy_def] at h'; cases h'
      | cons e' r' =>
        rw [isSy_def] at h h'
        obtain ⟨h1, h2⟩ := cand0 h
        obtain ⟨h3, h4⟩ := cand0 h1
        obtain ⟨h1', h2'⟩ := cand0 h'
        obtain ⟨h3', h4'⟩ := cand0 h1'
        rw [isS1_eq h3, isS1_eq h3', Nat.eq_of_beq_eq_true h4, Nat.eq_of_beq_eq_true h4', ih h2 h2']
