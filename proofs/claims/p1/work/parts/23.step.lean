/-! ===== what an instruction does to abstract values: stack and locals ===== -/
abbrev RV : Type := AV ⊕ (Bool × OR)
noncomputable def rvOk (ρ : Nat → Int) (v : Value) (r : RV) : Prop := match r with
  | .inl a => vrel ρ v a
  | .inr (false, o) => ∃ x : Int32, v = .int x ∧ orOk ρ x.toInt o
  | .inr (true, o) => ∃ x : Int64, v = .long x ∧ orOk ρ x.toInt o
abbrev SV : Type := List AV × RV
noncomputable def kI (lo hi n : Int) (st : List AV) : Option SV := bif leI lo n then (bif leI n hi then some (st, .inl (avI (kL n))) else none) else none
noncomputable def b2 (f : Ln → Ln → OR) (st : List AV) : Option SV :=
  (List.rec (motive := fun _ => Option SV) none (fun x_432 x_433 _ => (Sum.rec (motive := fun _ => Option SV) (fun x_434 => (Prod.rec (motive := fun _ => Option SV) (fun x_436 y_437 => (Bool.rec (motive := fun _ => Option SV) (List.rec (motive := fun _ => Option SV) none (fun x_438 r_439 _ => (Sum.rec (motive := fun _ => Option SV) (fun x_440 => (Prod.rec (motive := fun _ => Option SV) (fun x_442 x_443 => (Bool.rec (motive := fun _ => Option SV) (some (r_439, (.inr (false, (f x_443 y_437))))) none x_442)) x_440)) (fun x_441 => none) x_438)) x_433) none x_436)) x_434)) (fun x_435 => none) x_432)) st)
theorem b2_def (f : Ln → Ln → OR) (st : List AV) : b2 f st = (match st with
  | .inl (false, y) :: .inl (false, x) :: r => some (r, .inr (false, f x y))
  | _ => none) := by
  show (List.rec (motive := fun _ => Option SV) none (fun x_432 x_433 _ => (Sum.rec (motive := fun _ => Option SV) (fun x_434 => (Prod.rec (motive := fun _ => Option SV) (fun x_436 y_437 => (Bool.rec (motive := fun _ => Option SV) (List.rec (motive := fun _ => Option SV) none (fun x_438 r_439 _ => (Sum.rec (motive := fun _ => Option SV) (fun x_440 => (Prod.rec (motive := fun _ => Option SV) (fun x_442 x_443 => (Bool.rec (motive := fun _ => Option SV) (some (r_439, (.inr (false, (f x_443 y_437))))) none x_442)) x_440)) (fun x_441 => none) x_438)) x_433) none x_436)) x_434)) (fun x_435 => none) x_432)) st) = _
  try simp only [iAddQ_eq, iMulQ_eq, iNegQ_eq, lenQ_eq, nthQ_eq, setQ_eq, appQ_eq, mapQ_eq, allQ_eq, anyQ_eq, dropQ_eq, takeQ_eq, revQ_eq, getDQ_eq, optLQ_eq, brecC]
  all_goals
    cases st with
    | nil =>
      try dsimp only [cond_false, cond_true]
      all_goals rfl
    | cons y_444 y_445 =>
      try dsimp only [cond_false, cond_true]
      all_goals
        cases y_444 with
        | inl y_446 =>
          try dsimp only [cond_false, cond_true]
          all_goals
            cases y_446 with
            | mk y_447 y_448 =>
              try dsimp only [cond_false, cond_true]
              all_goals
                cases y_447 with
                | false =>
                  try dsimp only [cond_false, cond_true]
                  all_goals
                    cases y_445 with
                    | nil =>
                      try dsimp only [cond_false, cond_true]
                      all_goals rfl
                    | cons y_449 y_450 =>
                      try dsimp only [cond_false, cond_true]
                      all_goals
                        cases y_449 with
                        | inl y_451 =>
                          try dsimp only [cond_false, cond_true]
                          all_goals
                            cases y_451 with
                            | mk y_452 y_453 =>
                              try dsimp only [cond_false, cond_true]
                              all_goals
                                cases y_452 with
                                | false =>
                                  try dsimp only [cond_false, cond_true]
                                  all_goals rfl
                                | true =>
                                  try dsimp only [cond_false, cond_true]
                                  all_goals rfl
                        | inr y_454 =>
                          try dsimp only [cond_false, cond_true]
                          all_goals rfl
                | true =>
                  try dsimp only [cond_false, cond_true]
                  all_goals rfl
        | inr y_455 =>
          try dsimp only [cond_false, cond_true]
          all_goals rfl
noncomputable def b2o (f : Ln → Ln → Option OR) (st : List AV) : Option SV :=
  (List.rec (motive := fun _ => Option SV) none (fun x_456 x_457 _ => (Sum.rec (motive := fun _ => Option SV) (fun x_458 => (Prod.rec (motive := fun _ => Option SV) (fun x_460 y_461 => (Bool.rec (motive := fun _ => Option SV) (List.rec (motive := fun _ => Option SV) none (fun x_462 r_463 _ => (Sum.rec (motive := fun _ => Option SV) (fun x_464 => (Prod.rec (motive := fun _ => Option SV) (fun x_466 x_467 => (Bool.rec (motive := fun _ => Option SV) (Option.rec (motive := fun _ => Option SV) none (fun o_468 => (some (r_463, (.inr (false, o_468))))) (f x_467 y_461)) none x_466)) x_464)) (fun x_465 => none) x_462)) x_457) none x_460)) x_458)) (fun x_459 => none) x_456)) st)
theorem b2o_def (f : Ln → Ln → Option OR) (st : List AV) : b2o f st = (match st with
  | .inl (false, y) :: .inl (false, x) :: r => (match f x y with
    | some o => some (r, .inr (false, o))
    | none => none)
  | _ => none) := by
  show (List.rec (motive := fun _ => Option SV) none (fun x_456 x_457 _ => (Sum.rec (motive := fun _ => Option SV) (fun x_458 => (Prod.rec (motive := fun _ => Option SV) (fun x_460 y_461 => (Bool.rec (motive := fun _ => Option SV) (List.rec (motive := fun _ => Option SV) none (fun x_462 r_463 _ => (Sum.rec (motive := fun _ => Option SV) (fun x_464 => (Prod.rec (motive := fun _ => Option SV) (fun x_466 x_467 => (Bool.rec (motive := fun _ => Option SV) (Option.rec (motive := fun _ => Option SV) none (fun o_468 => (some (r_463, (.inr (false, o_468))))) (f x_467 y_461)) none x_466)) x_464)) (fun x_465 => none) x_462)) x_457) none x_460)) x_458)) (fun x_459 => none) x_456)) st) = _
  try simp only [iAddQ_eq, iMulQ_eq, iNegQ_eq, lenQ_eq, nthQ_eq, setQ_eq, appQ_eq, mapQ_eq, allQ_eq, anyQ_eq, dropQ_eq, takeQ_eq, revQ_eq, getDQ_eq, optLQ_eq, brecC]
  all_goals
    cases st with
    | nil =>
      try dsimp only [cond_false, cond_true]
      all_goals rfl
    | cons y_469 y_470 =>
      try dsimp only [cond_false, cond_true]
      all_goals
        cases y_469 with
        | inl y_471 =>
          try dsimp only [cond_false, cond_true]
          all_goals
            cases y_471 with
            | mk y_472 y_473 =>
              try dsimp only [cond_false, cond_true]
              all_goals
                cases y_472 with
                | false =>
                  try dsimp only [cond_false, cond_true]
                  all_goals
                    cases y_470 with
                    | nil =>
                      try dsimp only [cond_false, cond_true]
                      all_goals rfl
                    | cons y_474 y_475 =>
                      try dsimp only [cond_false, cond_true]
                      all_goals
                        cases y_474 with
                        | inl y_476 =>
                          try dsimp only [cond_false, cond_true]
                          all_goals
                            cases y_476 with
                            | mk y_477 y_478 =>
                              try dsimp only [cond_false, cond_true]
                              all_goals
                                cases y_477 with
                                | false =>
                                  try dsimp only [cond_false, cond_true]
                                  all_goals
                                    cases hq_9 : (f y_478 y_473) with
                                    | none =>
                                      try dsimp only [cond_false, cond_true]
                                      all_goals rfl
                                    | some y_479 =>
                                      try dsimp only [cond_false, cond_true]
                                      all_goals rfl
                                | true =>
                                  try dsimp only [cond_false, cond_true]
                                  all_goals rfl
                        | inr y_480 =>
                          try dsimp only [cond_false, cond_true]
                          all_goals rfl
                | true =>
                  try dsimp only [cond_false, cond_true]
                  all_goals rfl
        | inr y_481 =>
          try dsimp only [cond_false, cond_true]
          all_goals rfl
noncomputable def l2 (f : Ln → Ln → OR) (st : List AV) : Option SV :=
  (List.rec (motive := fun _ => Option SV) none (fun x_482 x_483 _ => (Sum.rec (motive := fun _ => Option SV) (fun x_484 => (Prod.rec (motive := fun _ => Option SV) (fun x_486 y_487 => (Bool.rec (motive := fun _ => Option SV) none (List.rec (motive := fun _ => Option SV) none (fun x_488 r_489 _ => (Sum.rec (motive := fun _ => Option SV) (fun x_490 => (Prod.rec (motive := fun _ => Option SV) (fun x_492 x_493 => (Bool.rec (motive := fun _ => Option SV) none (some (r_489, (.inr (true, (f x_493 y_487))))) x_492)) x_490)) (fun x_491 => none) x_488)) x_483) x_486)) x_484)) (fun x_485 => none) x_482)) st)
theorem l2_def (f : Ln → Ln → OR) (st : List AV) : l2 f st = (match st with
  | .inl (true, y) :: .inl (true, x) :: r => some (r, .inr (true, f x y))
  | _ => none) := by
  show (List.rec (motive := fun _ => Option SV) none (fun x_482 x_483 _ => (Sum.rec (motive := fun _ => Option SV) (fun x_484 => (Prod.rec (motive := fun _ => Option SV) (fun x_486 y_487 => (Bool.rec (motive := fun _ => Option SV) none (List.rec (motive := fun _ => Option SV) none (fun x_488 r_489 _ => (Sum.rec (motive := fun _ => Option SV) (fun x_490 => (Prod.rec (motive := fun _ => Option SV) (fun x_492 x_493 => (Bool.rec (motive := fun _ => Option SV) none (some (r_489, (.inr (true, (f x_493 y_487))))) x_492)) x_490)) (fun x_491 => none) x_488)) x_483) x_486)) x_484)) (fun x_485 => none) x_482)) st) = _
  try simp only [iAddQ_eq, iMulQ_eq, iNegQ_eq, lenQ_eq, nthQ_eq, setQ_eq, appQ_eq, mapQ_eq, allQ_eq, anyQ_eq, dropQ_eq, takeQ_eq, revQ_eq, getDQ_eq, optLQ_eq, brecC]
  all_goals
    cases st with
    | nil =>
      try dsimp only [cond_false, cond_true]
      all_goals rfl
    | cons y_494 y_495 =>
      try dsimp only [cond_false, cond_true]
      all_goals
        cases y_494 with
        | inl y_496 =>
          try dsimp only [cond_false, cond_true]
          all_goals
            cases y_496 with
            | mk y_497 y_498 =>
              try dsimp only [cond_false, cond_true]
              all_goals
                cases y_497 with
                | false =>
                  try dsimp only [cond_false, cond_true]
                  all_goals rfl
                | true =>
                  try dsimp only [cond_false, cond_true]
                  all_goals
                    cases y_495 with
                    | nil =>
                      try dsimp only [cond_false, cond_true]
                      all_goals rfl
                    | cons y_499 y_500 =>
                      try dsimp only [cond_false, cond_true]
                      all_goals
                        cases y_499 with
                        | inl y_501 =>
                          try dsimp only [cond_false, cond_true]
                          all_goals
                            cases y_501 with
                            | mk y_502 y_503 =>
                              try dsimp only [cond_false, cond_true]
                              all_goals
                                cases y_502 with
                                | false =>
                                  try dsimp only [cond_false, cond_true]
                                  all_goals rfl
                                | true =>
                                  try dsimp only [cond_false, cond_true]
                                  all_goals rfl
                        | inr y_504 =>
                          try dsimp only [cond_false, cond_true]
                          all_goals rfl
        | inr y_505 =>
          try dsimp only [cond_false, cond_true]
          all_goals rfl
noncomputable def l2o (f : Ln → Ln → Option OR) (st : List AV) : Option SV :=
  (List.rec (motive := fun _ => Option SV) none (fun x_506 x_507 _ => (Sum.rec (motive := fun _ => Option SV) (fun x_508 => (Prod.rec (motive := fun _ => Option SV) (fun x_510 y_511 => (Bool.rec (motive := fun _ => Option SV) none (List.rec (motive := fun _ => Option SV) none (fun x_512 r_513 _ => (Sum.rec (motive := fun _ => Option SV) (fun x_514 => (Prod.rec (motive := fun _ => Option SV) (fun x_516 x_517 => (Bool.rec (motive := fun _ => Option SV) none (Option.rec (motive := fun _ => Option SV) none (fun o_518 => (some (r_513, (.inr (true, o_518))))) (f x_517 y_511)) x_516)) x_514)) (fun x_515 => none) x_512)) x_507) x_510)) x_508)) (fun x_509 => none) x_506)) st)
theorem l2o_def (f : Ln → Ln → Option OR) (st : List AV) : l2o f st = (match st with
  | .inl (true, y) :: .inl (true, x) :: r => (match f x y with
    | some o => some (r, .inr (true, o))
    | none => none)
  | _ => none) := by
  show (List.rec (motive := fun _ => Option SV) none (fun x_506 x_507 _ => (Sum.rec (motive := fun _ => Option SV) (fun x_508 => (Prod.rec (motive := fun _ => Option SV) (fun x_510 y_511 => (Bool.rec (motive := fun _ => Option SV) none (List.rec (motive := fun _ => Option SV) none (fun x_512 r_513 _ => (Sum.rec (motive := fun _ => Option SV) (fun x_514 => (Prod.rec (motive := fun _ => Option SV) (fun x_516 x_517 => (Bool.rec (motive := fun _ => Option SV) none (Option.rec (motive := fun _ => Option SV) none (fun o_518 => (some (r_513, (.inr (true, o_518))))) (f x_517 y_511)) x_516)) x_514)) (fun x_515 => none) x_512)) x_507) x_510)) x_508)) (fun x_509 => none) x_506)) st) = _
  try simp only [iAddQ_eq, iMulQ_eq, iNegQ_eq, lenQ_eq, nthQ_eq, setQ_eq, appQ_eq, mapQ_eq, allQ_eq, anyQ_eq, dropQ_eq, takeQ_eq, revQ_eq, getDQ_eq, optLQ_eq, brecC]
  all_goals
    cases st with
    | nil =>
      try dsimp only [cond_false, cond_true]
      all_goals rfl
    | cons y_519 y_520 =>
      try dsimp only [cond_false, cond_true]
      all_goals
        cases y_519 with
        | inl y_521 =>
          try dsimp only [cond_false, cond_true]
          all_goals
            cases y_521 with
            | mk y_522 y_523 =>
              try dsimp only [cond_false, cond_true]
              all_goals
                cases y_522 with
                | false =>
                  try dsimp only [cond_false, cond_true]
                  all_goals rfl
                | true =>
                  try dsimp only [cond_false, cond_true]
                  all_goals
                    cases y_520 with
                    | nil =>
                      try dsimp only [cond_false, cond_true]
                      all_goals rfl
                    | cons y_524 y_525 =>
                      try dsimp only [cond_false, cond_true]
                      all_goals
                        cases y_524 with
                        | inl y_526 =>
                          try dsimp only [cond_false, cond_true]
                          all_goals
                            cases y_526 with
                            | mk y_527 y_528 =>
                              try dsimp only [cond_false, cond_true]
                              all_goals
                                cases y_527 with
                                | false =>
                                  try dsimp only [cond_false, cond_true]
                                  all_goals rfl
                                | true =>
                                  try dsimp only [cond_false, cond_true]
                                  all_goals
                                    cases hq_9 : (f y_528 y_523) with
                                    | none =>
                                      try dsimp only [cond_false, cond_true]
                                      all_goals rfl
                                    | some y_529 =>
                                      try dsimp only [cond_false, cond_true]
                                      all_goals rfl
                        | inr y_530 =>
                          try dsimp only [cond_false, cond_true]
                          all_goals rfl
        | inr y_531 =>
          try dsimp only [cond_false, cond_true]
          all_goals rfl
noncomputable def u1 (f : Ln → OR) (st : List AV) : Option SV :=
  (List.rec (motive := fun _ => Option SV) none (fun x_532 r_533 _ => (Sum.rec (motive := fun _ => Option SV) (fun x_534 => (Prod.rec (motive := fun _ => Option SV) (fun x_536 x_537 => (Bool.rec (motive := fun _ => Option SV) (some (r_533, (.inr (false, (f x_537))))) none x_536)) x_534)) (fun x_535 => none) x_532)) st)
theorem u1_def (f : Ln → OR) (st : List AV) : u1 f st = (match st with
  | .inl (false, x) :: r => some (r, .inr (false, f x))
  | _ => none) := by
  show (List.rec (motive := fun _ => Option SV) none (fun x_532 r_533 _ => (Sum.rec (motive := fun _ => Option SV) (fun x_534 => (Prod.rec (motive := fun _ => Option SV) (fun x_536 x_537 => (Bool.rec (motive := fun _ => Option SV) (some (r_533, (.inr (false, (f x_537))))) none x_536)) x_534)) (fun x_535 => none) x_532)) st) = _
  try simp only [iAddQ_eq, iMulQ_eq, iNegQ_eq, lenQ_eq, nthQ_eq, setQ_eq, appQ_eq, mapQ_eq, allQ_eq, anyQ_eq, dropQ_eq, takeQ_eq, revQ_eq, getDQ_eq, optLQ_eq, brecC]
  all_goals
    cases st with
    | nil =>
      try dsimp only [cond_false, cond_true]
      all_goals rfl
    | cons y_538 y_539 =>
      try dsimp only [cond_false, cond_true]
      all_goals
        cases y_538 with
        | inl y_540 =>
          try dsimp only [cond_false, cond_true]
          all_goals
            cases y_540 with
            | mk y_541 y_542 =>
              try dsimp only [cond_false, cond_true]
              all_goals
                cases y_541 with
                | false =>
                  try dsimp only [cond_false, cond_true]
                  all_goals rfl
                | true =>
                  try dsimp only [cond_false, cond_true]
                  all_goals rfl
        | inr y_543 =>
          try dsimp only [cond_false, cond_true]
          all_goals rfl
noncomputable def lnB (a b : Bool) : Bool :=
  (Bool.rec (motive := fun _ => Bool) (Bool.rec (motive := fun _ => Bool) true false b) (Bool.rec (motive := fun _ => Bool) false true b) a)
theorem lnB_def (a b : Bool) : lnB a b = (match a, b with
  | true, true => true
  | false, false => true
  | _, _ => false) := by
  show (Bool.rec (motive := fun _ => Bool) (Bool.rec (motive := fun _ => Bool) true false b) (Bool.rec (motive := fun _ => Bool) false true b) a) = _
  try simp only [iAddQ_eq, iMulQ_eq, iNegQ_eq, lenQ_eq, nthQ_eq, setQ_eq, appQ_eq, mapQ_eq, allQ_eq, anyQ_eq, dropQ_eq, takeQ_eq, revQ_eq, getDQ_eq, optLQ_eq, brecC]
  all_goals
    cases a with
    | false =>
      try dsimp only [cond_false, cond_true]
      all_goals
        cases b with
        | false =>
          try dsimp only [cond_false, cond_true]
          all_goals rfl
        | true =>
          try dsimp only [cond_false, cond_true]
          all_goals rfl
    | true =>
      try dsimp only [cond_false, cond_true]
      all_goals
        cases b with
        | false =>
          try dsimp only [cond_false, cond_true]
          all_goals rfl
        | true =>
          try dsimp only [cond_false, cond_true]
          all_goals rfl
noncomputable def ldN (lg : Bool) (lv : AL) (k : Nat) (st : List AV) : Option SV :=
  (Option.rec (motive := fun _ => Option SV) none (fun x_544 => (Sum.rec (motive := fun _ => Option SV) (fun x_545 => (Prod.rec (motive := fun _ => Option SV) (fun b_547 e_548 => (Bool.rec (motive := fun _ => Option SV) none (some (st, (.inl (.inl (b_547, e_548))))) (lnB b_547 lg))) x_545)) (fun x_546 => none) x_544)) (alGet k lv))
theorem ldN_def (lg : Bool) (lv : AL) (k : Nat) (st : List AV) : ldN lg lv k st = (match alGet k lv with
  | some (.inl (b, e)) => bif lnB b lg then some (st, .inl (.inl (b, e))) else none
  | _ => none) := by
  show (Option.rec (motive := fun _ => Option SV) none (fun x_544 => (Sum.rec (motive := fun _ => Option SV) (fun x_545 => (Prod.rec (motive := fun _ => Option SV) (fun b_547 e_548 => (Bool.rec (motive := fun _ => Option SV) none (some (st, (.inl (.inl (b_547, e_548))))) (lnB b_547 lg))) x_545)) (fun x_546 => none) x_544)) (alGet k lv)) = _
  try simp only [iAddQ_eq, iMulQ_eq, iNegQ_eq, lenQ_eq, nthQ_eq, setQ_eq, appQ_eq, mapQ_eq, allQ_eq, anyQ_eq, dropQ_eq, takeQ_eq, revQ_eq, getDQ_eq, optLQ_eq, brecC]
  all_goals
    cases hq_1 : (alGet k lv) with
    | none =>
      try dsimp only [cond_false, cond_true]
      all_goals rfl
    | some y_549 =>
      try dsimp only [cond_false, cond_true]
      all_goals
        cases y_549 with
        | inl y_550 =>
          try dsimp only [cond_false, cond_true]
          all_goals
            cases y_550 with
            | mk y_551 y_552 =>
              try dsimp only [cond_false, cond_true]
              all_goals
                cases hq_4 : (lnB y_551 lg) with
                | false =>
                  try dsimp only [cond_false, cond_true]
                  all_goals rfl
                | true =>
                  try dsimp only [cond_false, cond_true]
                  all_goals rfl
        | inr y_553 =>
          try dsimp only [cond_false, cond_true]
          all_goals rfl
noncomputable def ldR (lv : AL) (k : Nat) (st : List AV) : Option SV :=
  (Option.rec (motive := fun _ => Option SV) none (fun x_554 => (Sum.rec (motive := fun _ => Option SV) (fun x_555 => none) (fun x_556 => (Sum.rec (motive := fun _ => Option SV) (fun x_557 => (Option.rec (motive := fun _ => Option SV) none (fun i_559 => (some (st, (.inl (.inr (.inl (some i_559))))))) x_557)) (fun x_558 => none) x_556)) x_554)) (alGet k lv))
theorem ldR_def (lv : AL) (k : Nat) (st : List AV) : ldR lv k st = (match alGet k lv with
  | some (.inr (.inl (some i))) => some (st, .inl (.inr (.inl (some i))))
  | _ => none) := by
  show (Option.rec (motive := fun _ => Option SV) none (fun x_554 => (Sum.rec (motive := fun _ => Option SV) (fun x_555 => none) (fun x_556 => (Sum.rec (motive := fun _ => Option SV) (fun x_557 => (Option.rec (motive := fun _ => Option SV) none (fun i_559 => (some (st, (.inl (.inr (.inl (some i_559))))))) x_557)) (fun x_558 => none) x_556)) x_554)) (alGet k lv)) = _
  all_goals
    cases hq_1 : (alGet k lv) with
    | none =>
      try dsimp only [cond_false, cond_true]
      all_goals rfl
    | some y_560 =>
      try dsimp only [cond_false, cond_true]
      all_goals
        cases y_560 with
        | inl y_561 =>
          try dsimp only [cond_false, cond_true]
          all_goals rfl
        | inr y_562 =>
          try dsimp only [cond_false, cond_true]
          all_goals
            cases y_562 with
            | inl y_563 =>
              try dsimp only [cond_false, cond_true]
              all_goals
                cases y_563 with
                | none =>
                  try dsimp only [cond_false, cond_true]
                  all_goals rfl
                | some y_564 =>
                  try dsimp only [cond_false, cond_true]
                  all_goals rfl
            | inr y_565 =>
              try dsimp only [cond_false, cond_true]
              all_goals rfl
noncomputable def g0 (i : Instr) (a : Nat) (tab : Tb) (fs : List Ln) (lv : AL) (st : List AV) : Option SV := match i with
  | .iconst n => kI lo32 hi32 n st
  | .bipush n => kI (.negSucc 127) (.ofNat 127) n st
  | .sipush n => kI (.negSucc 32767) (.ofNat 32767) n st
  | .lconst n => some (st, .inl (avJ (kL (Int.ofNat (n : Nat)))))
  | .ldc _ => some (st, .inl (avI (kL (cI a).toInt)))
  | .ldc_w _ => some (st, .inl (avI (kL (cI a).toInt)))
  | .ldc2_w _ => some (st, .inl (avJ (kL (cL a).toInt)))
  | .iload k => ldN false lv k st
  | .iload_n k => ldN false lv (k : Nat) st
  | .lload k => ldN true lv k st
  | .lload_n k => ldN true lv (k : Nat) st
  | .aload k => ldR lv k st
  | .aload_n k => ldR lv (k : Nat) st
  | .iadd => b2 (aAdd tab) st
  | .isub => b2 (aSub tab) st
  | .imul => b2 (aMul tab) st
  | .iand => b2 (aAnd tab) st
  | .ior => b2 (aOr tab) st
  | .ixor => b2 (aXor tab) st
  | .ishl => b2 (aShl tab) st
  | .ishr => b2 (aShr tab) st
  | .iushr => b2 (aUshr tab) st
  | .idiv => b2o (aDiv tab fs) st
  | .irem => b2o (aRem tab fs) st
  | .ineg => u1 (aNeg tab) st
  | .i2c => u1 (aI2c tab) st
  | .ladd => l2 (lAdd tab) st
  | .lsub => l2 (lSub tab) st
  | .lmul => l2 (lMul tab) st
  | .ldiv => l2o (lDiv tab fs) st
  | .lneg => match st with
    | .inl (true, x) :: r => some (r, .inr (true, lNeg tab x))
    | _ => none
  | .i2l => match st with
    | .inl (false, x) :: r => some (r, .inl (.inl (true, x)))
    | _ => none
  | .l2i => match st with
    | .inl (true, x) :: r => some (r, .inr (false, aL2i tab x))
    | _ => none
  | .lcmp => match st with
    | .inl (true, y) :: .inl (true, x) :: r => some (r, .inl (.inr (.inr (x, y))))
    | _ => none
  | .dup => match st with
    | v :: r => bif Nat.beq (catA v) 1 then some (v :: r, .inl v) else none
    | _ => none
  | .dup2 => match st with
    | v :: w :: r => bif Nat.beq (catA v) 1 then (bif Nat.beq (catA w) 1 then some (w :: v :: w :: r, .inl v) else none) else none
    | _ => none
  | _ => none
section STEP
variable {ρ : Nat → Int} {tab : Tb} {fs : List Ln} {cst : List Value} {st rest : List AV} {clv : LV} {lv : AL} {r : RV}
theorem vI_inv {v : Value} {e : Ln} (h : vrel ρ v (.inl (false, e))) : ∃ x : Int32, v = .int x ∧ x.toInt = ev ρ e := h
theorem vJ_inv {v : Value} {e : Ln} (h : vrel ρ v (.inl (true, e))) : ∃ x : Int64, v = .long x ∧ x.toInt = ev ρ e := h
theorem lnB_eq {a b : Bool} (h : lnB a b = true) : a = b := by
  revert h
  cases a <;> cases b <;> intro h <;> first | rfl | cases h
theorem kI_ok {lo hi n : Int} (h : kI lo hi n st = some (rest, r)) : lo ≤ n ∧ n ≤ hi ∧ rest = st ∧ r = .inl (avI (kL n)) := by
  unfold kI at h
  cases h1 : leI lo n with
  | false => rw [h1] at h; cases h
  | true =>
    rw [h1] at h
    cases h2 : leI n hi with
    | false => rw [h2] at h; cases h
    | true => rw [h2] at h; cases h; exact ⟨leI_le h1, leI_le h2, rfl, rfl⟩
theorem b2_ok {F : Int32 → Int32 → Int32} {f : Ln → Ln → OR} (hs : rel2 (vrel ρ) cst st) (hf : ∀ {a b : Ln} {x y : Int32}, x.toInt = ev ρ a → y.toInt = ev ρ b → orOk ρ (F x y).toInt (f a b)) (h : b2 f st = some (rest, r)) : ∃ v cr, bi F cst = some (v :: cr) ∧ rel2 (vrel ρ) cr rest ∧ rvOk ρ v r := by
  rw [b2_def] at h
  split at h
  · rename_i y x r'
    cases h
    obtain ⟨v1, c1, e1, h1, hs1⟩ := rel2_cons hs
    obtain ⟨v2, c2, e2, h2, hs2⟩ := rel2_cons hs1
    obtain ⟨y', e3, h3⟩ := vI_inv h1
    obtain ⟨x', e4, h4⟩ := vI_inv h2
    subst e1; subst e2; subst e3; subst e4
    exact ⟨_, _, rfl, hs2, _, rfl, hf h4 h3⟩
  · cases h
theorem b2o_ok {F : Int32 → Int32 → Int32} {f : Ln → Ln → Option OR} (hs : rel2 (vrel ρ) cst st) (hf : ∀ {a b : Ln} {x y : Int32} {o : OR}, x.toInt = ev ρ a → y.toInt = ev ρ b → f a b = some o → y ≠ 0 ∧ orOk ρ (F x y).toInt o) (h : b2o f st = some (rest, r)) : ∃ v cr, biN F cst = some (v :: cr) ∧ rel2 (vrel ρ) cr rest ∧ rvOk ρ v r := by
  rw [b2o_def] at h
  split at h
  · rename_i y x r'
    cases ho : f x y with
    | none => rw [ho] at h; cases h
    | some o =>
      rw [ho] at h
      cases h
      obtain ⟨v1, c1, e1, h1, hs1⟩ := rel2_cons hs
      obtain ⟨v2, c2, e2, h2, hs2⟩ := rel2_cons hs1
      obtain ⟨y', e3, h3⟩ := vI_inv h1
      obtain ⟨x', e4, h4⟩ := vI_inv h2
      subst e1; subst e2; subst e3; subst e4
      obtain ⟨n0, hor⟩ := hf h4 h3 ho
      refine ⟨_, _, ?_, hs2, _, rfl, hor⟩
      show (if y' = 0 then none else some (.int (F x' y') :: c2)) = _
      rw [if_neg n0]
  · cases h
theorem l2_ok {F : Int64 → Int64 → Int64} {f : Ln → Ln → OR} (hs : rel2 (vrel ρ) cst st) (hf : ∀ {a b : Ln} {x y : Int64}, x.toInt = ev ρ a → y.toInt = ev ρ b → orOk ρ (F x y).toInt (f a b)) (h : l2 f st = some (rest, r)) : ∃ v cr, bl F cst = some (v :: cr) ∧ rel2 (vrel ρ) cr rest ∧ rvOk ρ v r := by
  rw [l2_def] at h
  split at h
  · rename_i y x r'
    cases h
    obtain ⟨v1, c1, e1, h1, hs1⟩ := rel2_cons hs
    obtain ⟨v2, c2, e2, h2, hs2⟩ := rel2_cons hs1
    obtain ⟨y', e3, h3⟩ := vJ_inv h1
    obtain ⟨x', e4, h4⟩ := vJ_inv h2
    subst e1; subst e2; subst e3; subst e4
    exact ⟨_, _, rfl, hs2, _, rfl, hf h4 h3⟩
  · cases h
theorem l2o_ok {F : Int64 → Int64 → Int64} {f : Ln → Ln → Option OR} (hs : rel2 (vrel ρ) cst st) (hf : ∀ {a b : Ln} {x y : Int64} {o : OR}, x.toInt = ev ρ a → y.toInt = ev ρ b → f a b = some o → y ≠ 0 ∧ orOk ρ (F x y).toInt o) (h : l2o f st = some (rest, r)) : ∃ v cr, blN F cst = some (v :: cr) ∧ rel2 (vrel ρ) cr rest ∧ rvOk ρ v r := by
  rw [l2o_def] at h
  split at h
  · rename_i y x r'
    cases ho : f x y with
    | none => rw [ho] at h; cases h
    | some o =>
      rw [ho] at h
      cases h
      obtain ⟨v1, c1, e1, h1, hs1⟩ := rel2_cons hs
      obtain ⟨v2, c2, e2, h2, hs2⟩ := rel2_cons hs1
      obtain ⟨y', e3, h3⟩ := vJ_inv h1
      obtain ⟨x', e4, h4⟩ := vJ_inv h2
      subst e1; subst e2; subst e3; subst e4
      obtain ⟨n0, hor⟩ := hf h4 h3 ho
      refine ⟨_, _, ?_, hs2, _, rfl, hor⟩
      show (if y' = 0 then none else some (.long (F x' y') :: c2)) = _
      rw [if_neg n0]
  · cases h
theorem u1_ok {F : Int32 → Int32} {f : Ln → OR} (hs : rel2 (vrel ρ) cst st) (hf : ∀ {a : Ln} {x : Int32}, x.toInt = ev ρ a → orOk ρ (F x).toInt (f a)) (h : u1 f st = some (rest, r)) : ∃ v cr, ui F cst = some (v :: cr) ∧ rel2 (vrel ρ) cr rest ∧ rvOk ρ v r := by
  rw [u1_def] at h
  split at h
  · rename_i x r'
    cases h
    obtain ⟨v1, c1, e1, h1, hs1⟩ := rel2_cons hs
    obtain ⟨x', e4, h4⟩ := vI_inv h1
    subst e1; subst e4
    exact ⟨_, _, rfl, hs1, _, rfl, hf h4⟩
  · cases h
theorem ldI_ok {k : Nat} (hs : rel2 (vrel ρ) cst st) (hl : lvR ρ clv lv) (h : ldN false lv k st = some (rest, r)) : ∃ v cr, ldI clv k cst = some (v :: cr) ∧ rel2 (vrel ρ) cr rest ∧ rvOk ρ v r := by
  rw [ldN_def] at h
  split at h
  · rename_i b e hg
    cases hb : lnB b false with
    | false => rw [hb] at h; cases h
    | true =>
      rw [hb] at h
      have := lnB_eq hb
      subst this
      cases h
      obtain ⟨v, hv, hr⟩ := lvR_get hl hg
      obtain ⟨x, e1, h1⟩ := vI_inv hr
      subst e1
      refine ⟨.int x, cst, ?_, hs, hr⟩
      unfold ldI
      rw [hv]
  · cases h
theorem ldL_ok {k : Nat} (hs : rel2 (vrel ρ) cst st) (hl : lvR ρ clv lv) (h : ldN true lv k st = some (rest, r)) : ∃ v cr, ldL clv k cst = some (v :: cr) ∧ rel2 (vrel ρ) cr rest ∧ rvOk ρ v r := by
  rw [ldN_def] at h
  split at h
  · rename_i b e hg
    cases hb : lnB b true with
    | false => rw [hb] at h; cases h
    | true =>
      rw [hb] at h
      have := lnB_eq hb
      subst this
      cases h
      obtain ⟨v, hv, hr⟩ := lvR_get hl hg
      obtain ⟨x, e1, h1⟩ := vJ_inv hr
      subst e1
      refine ⟨.long x, cst, ?_, hs, hr⟩
      unfold ldL
      rw [hv]
  · cases h
theorem ldA_ok {k : Nat} (hs : rel2 (vrel ρ) cst st) (hl : lvR ρ clv lv) (h : ldR lv k st = some (rest, r)) : ∃ v cr, ldA clv k cst = some (v :: cr) ∧ rel2 (vrel ρ) cr rest ∧ rvOk ρ v r := by
  rw [ldR_def] at h
  split at h
  · rename_i i hg
    cases h
    obtain ⟨v, hv, hr⟩ := lvR_get hl hg
    have e1 : v = .ref i := hr
    subst e1
    refine ⟨.ref i, cst, ?_, hs, hr⟩
    unfold ldA
    rw [hv]
  · cases h
theorem k32 {n : Int} (h1 : lo32 ≤ n) (h2 : n ≤ hi32) : (Int32.ofInt n).toInt = n := by
  have e1 : lo32 = -2147483648 := rfl
  have e2 : hi32 = 2147483647 := rfl
  exact Int32.toInt_ofInt_of_le (by omega) (by omega)
theorem lcst : ∀ n : Fin 2, (Int64.ofNat (n : Nat)).toInt = Int.ofNat (n : Nat) := by decide
set_option maxHeartbeats 4000000 in
theorem g0_ok {i : Instr} {a : Nat} (ht : tOk ρ tab) (hf : fOk ρ fs) (hs : rel2 (vrel ρ) cst st) (hl : lvR ρ clv lv) (h : g0 i a tab fs lv st = some (rest, r)) : ∃ v cr, stepA i a cst clv = some (v :: cr) ∧ rel2 (vrel ρ) cr rest ∧ rvOk ρ v r := by
  have no : ∀ {P : Prop}, (none : Option SV) = some (rest, r) → P := fun h => by cases h
  cases i with
  | iconst n =>
    obtain ⟨h1, h2, rfl, rfl⟩ := kI_ok h
    exact ⟨_, _, rfl, hs, _, rfl, (k32 h1 h2).trans (ev_k ρ n).symm⟩
  | bipush n =>
    obtain ⟨h1, h2, rfl, rfl⟩ := kI_ok h
    refine ⟨_, _, rfl, hs, _, rfl, ?_⟩
    rw [ev_k, Int8.toInt_toInt32]
    have e1 : Int.negSucc 127 = -128 := rfl
    have e2 : Int.ofNat 127 = 127 := rfl
    exact Int8.toInt_ofInt_of_le (by omega) (by omega)
  | sipush n =>
    obtain ⟨h1, h2, rfl, rfl⟩ := kI_ok h
    refine ⟨_, _, rfl, hs, _, rfl, ?_⟩
    rw [ev_k, Int16.toInt_toInt32]
    have e1 : Int.negSucc 32767 = -32768 := rfl
    have e2 : Int.ofNat 32767 = 32767 := rfl
    exact Int16.toInt_ofInt_of_le (by omega) (by omega)
  | lconst n =>
    cases h
    exact ⟨_, _, rfl, hs, _, rfl, (lcst n).trans (ev_k ρ _).symm⟩
  | ldc _ =>
    cases h
    exact ⟨_, _, rfl, hs, _, rfl, (ev_k ρ _).symm⟩
  | ldc_w _ =>
    cases h
    exact ⟨_, _, rfl, hs, _, rfl, (ev_k ρ _).symm⟩
  | ldc2_w _ =>
    cases h
    exact ⟨_, _, rfl, hs, _, rfl, (ev_k ρ _).symm⟩
  | iload k => exact ldI_ok hs hl h
  | iload_n k => exact ldI_ok hs hl h
  | lload k => exact ldL_ok hs hl h
  | lload_n k => exact ldL_ok hs hl h
  | aload k => exact ldA_ok hs hl h
  | aload_n k => exact ldA_ok hs hl h
  | iadd => exact b2_ok hs (aAdd_ok ht) h
  | isub => exact b2_ok hs (aSub_ok ht) h
  | imul => exact b2_ok hs (aMul_ok ht) h
  | iand => exact b2_ok hs (aAnd_ok ht) h
  | ior => exact b2_ok hs (aOr_ok ht) h
  | ixor => exact b2_ok hs (aXor_ok ht) h
  | ishl => exact b2_ok hs (aShl_ok ht) h
  | ishr => exact b2_ok hs (aShr_ok ht) h
  | iushr => exact b2_ok hs (aUshr_ok ht) h
  | idiv => exact b2o_ok hs (fun ha hb hr => aDiv_ok ht hf ha hb hr) h
  | irem => exact b2o_ok hs (fun ha hb hr => aRem_ok ht hf ha hb hr) h
  | ineg => exact u1_ok hs (aNeg_ok ht) h
  | i2c => exact u1_ok hs (aI2c_ok ht) h
  | ladd => exact l2_ok hs (lAdd_ok ht) h
  | lsub => exact l2_ok hs (lSub_ok ht) h
  | lmul => exact l2_ok hs (lMul_ok ht) h
  | ldiv => exact l2o_ok hs (fun ha hb hr => lDiv_ok ht hf ha hb hr) h
  | lneg =>
    simp only [g0] at h
    split at h
    · cases h
      obtain ⟨v1, c1, e1, h1, hs1⟩ := rel2_cons hs
      obtain ⟨x', e4, h4⟩ := vJ_inv h1
      subst e1; subst e4
      exact ⟨_, _, rfl, hs1, _, rfl, lNeg_ok ht h4⟩
    · cases h
  | i2l =>
    simp only [g0] at h
    split at h
    · cases h
      obtain ⟨v1, c1, e1, h1, hs1⟩ := rel2_cons hs
      obtain ⟨x', e4, h4⟩ := vI_inv h1
      subst e1; subst e4
      exact ⟨_, _, rfl, hs1, _, rfl, (i2l_toInt x').trans h4⟩
    · cases h
  | l2i =>
    simp only [g0] at h
    split at h
    · cases h
      obtain ⟨v1, c1, e1, h1, hs1⟩ := rel2_cons hs
      obtain ⟨x', e4, h4⟩ := vJ_inv h1
      subst e1; subst e4
      exact ⟨_, _, rfl, hs1, _, rfl, aL2i_ok ht h4⟩
    · cases h
  | lcmp =>
    simp only [g0] at h
    split at h
    · cases h
      obtain ⟨v1, c1, e1, h1, hs1⟩ := rel2_cons hs
      obtain ⟨v2, c2, e2, h2, hs2⟩ := rel2_cons hs1
      obtain ⟨y', e3, h3⟩ := vJ_inv h1
      obtain ⟨x', e4, h4⟩ := vJ_inv h2
      subst e1; subst e2; subst e3; subst e4
      refine ⟨_, _, rfl, hs2, ?_⟩
      show Value.int (lg_cmp x' y') = .int (cmpZ _ _)
      rw [← h3, ← h4]
      unfold lg_cmp cmpZ
      simp only [gt_iff_lt, Int64.lt_iff_toInt_lt, ← Int64.toInt_inj]
    · cases h
  | dup =>
    simp only [g0] at h
    split at h
    · rename_i v r'
      cases hc : Nat.beq (catA v) 1 with
      | false => rw [hc] at h; cases h
      | true =>
        rw [hc] at h
        cases h
        obtain ⟨v1, c1, e1, h1, hs1⟩ := rel2_cons hs
        subst e1
        refine ⟨v1, v1 :: c1, ?_, ⟨h1, hs1⟩, h1⟩
        show (if v1.category = 1 then some (v1 :: v1 :: c1) else none) = _
        rw [if_pos (by rw [catA_ok h1]; exact Nat.eq_of_beq_eq_true hc)]
    · cases h
  | dup2 =>
    simp only [g0] at h
    split at h
    · rename_i v w r'
      cases hc : Nat.beq (catA v) 1 with
      | false => rw [hc] at h; cases h
      | true =>
        rw [hc] at h
        cases hc2 : Nat.beq (catA w) 1 with
        | false => rw [hc2] at h; cases h
        | true =>
          rw [hc2] at h
          cases h
          obtain ⟨v1, c1, e1, h1, hs1⟩ := rel2_cons hs
          obtain ⟨v2, c2, e2, h2, hs2⟩ := rel2_cons hs1
          subst e1; subst e2
          refine ⟨v1, v2 :: v1 :: v2 :: c2, ?_, ⟨h2, h1, h2, hs2⟩, h1⟩
          show (if v1.category = 1 ∧ v2.category = 1 then some (v1 :: v2 :: v1 :: v2 :: c2) else none) = _
          rw [if_pos ⟨by rw [catA_ok h1]; exact Nat.eq_of_beq_eq_true hc, by rw [catA_ok h2]; exact Nat.eq_of_beq_eq_true hc2⟩]
    · cases h
  | _ => exact no h
-- into locals
noncomputable def gs1 (nL k : Nat) (st : List AV) (lv : AL) : Option (List AV × AL) :=
  (List.rec (motive := fun _ => Option (List AV × AL)) none (fun x_566 r_567 _ => (Sum.rec (motive := fun _ => Option (List AV × AL)) (fun x_568 => (Prod.rec (motive := fun _ => Option (List AV × AL)) (fun x_570 e_571 => (Bool.rec (motive := fun _ => Option (List AV × AL)) (Bool.rec (motive := fun _ => Option (List AV × AL)) none (some (r_567, ((k, (.inl (false, e_571))) :: (alDel false k lv)))) (Nat.blt k nL)) none x_570)) x_568)) (fun x_569 => none) x_566)) st)
theorem gs1_def (nL k : Nat) (st : List AV) (lv : AL) : gs1 nL k st lv = (match st with
  | .inl (false, e) :: r => bif Nat.blt k nL then some (r, (k, .inl (false, e)) :: alDel false k lv) else none
  | _ => none) := by
  show (List.rec (motive := fun _ => Option (List AV × AL)) none (fun x_566 r_567 _ => (Sum.rec (motive := fun _ => Option (List AV × AL)) (fun x_568 => (Prod.rec (motive := fun _ => Option (List AV × AL)) (fun x_570 e_571 => (Bool.rec (motive := fun _ => Option (List AV × AL)) (Bool.rec (motive := fun _ => Option (List AV × AL)) none (some (r_567, ((k, (.inl (false, e_571))) :: (alDel false k lv)))) (Nat.blt k nL)) none x_570)) x_568)) (fun x_569 => none) x_566)) st) = _
  try simp only [iAddQ_eq, iMulQ_eq, iNegQ_eq, lenQ_eq, nthQ_eq, setQ_eq, appQ_eq, mapQ_eq, allQ_eq, anyQ_eq, dropQ_eq, takeQ_eq, revQ_eq, getDQ_eq, optLQ_eq, brecC]
  all_goals
    cases st with
    | nil =>
      try dsimp only [cond_false, cond_true]
      all_goals rfl
    | cons y_572 y_573 =>
      try dsimp only [cond_false, cond_true]
      all_goals
        cases y_572 with
        | inl y_574 =>
          try dsimp only [cond_false, cond_true]
          all_goals
            cases y_574 with
            | mk y_575 y_576 =>
              try dsimp only [cond_false, cond_true]
              all_goals
                cases y_575 with
                | false =>
                  try dsimp only [cond_false, cond_true]
                  all_goals
                    cases hq_5 : (Nat.blt k nL) with
                    | false =>
                      try dsimp only [cond_false, cond_true]
                      all_goals rfl
                    | true =>
                      try dsimp only [cond_false, cond_true]
                      all_goals rfl
                | true =>
                  try dsimp only [cond_false, cond_true]
                  all_goals rfl
        | inr y_577 =>
          try dsimp only [cond_false, cond_true]
          all_goals rfl
noncomputable def gs2 (nL k : Nat) (st : List AV) (lv : AL) : Option (List AV × AL) :=
  (List.rec (motive := fun _ => Option (List AV × AL)) none (fun x_578 r_579 _ => (Sum.rec (motive := fun _ => Option (List AV × AL)) (fun x_580 => (Prod.rec (motive := fun _ => Option (List AV × AL)) (fun x_582 e_583 => (Bool.rec (motive := fun _ => Option (List AV × AL)) none (Bool.rec (motive := fun _ => Option (List AV × AL)) none (some (r_579, ((k, (.inl (true, e_583))) :: (alDel true k lv)))) (Nat.blt (Nat.succ k) nL)) x_582)) x_580)) (fun x_581 => none) x_578)) st)
theorem gs2_def (nL k : Nat) (st : List AV) (lv : AL) : gs2 nL k st lv = (match st with
  | .inl (true, e) :: r => bif Nat.blt (Nat.succ k) nL then some (r, (k, .inl (true, e)) :: alDel true k lv) else none
  | _ => none) := by
  show (List.rec (motive := fun _ => Option (List AV × AL)) none (fun x_578 r_579 _ => (Sum.rec (motive := fun _ => Option (List AV × AL)) (fun x_580 => (Prod.rec (motive := fun _ => Option (List AV × AL)) (fun x_582 e_583 => (Bool.rec (motive := fun _ => Option (List AV × AL)) none (Bool.rec (motive := fun _ => Option (List AV × AL)) none (some (r_579, ((k, (.inl (true, e_583))) :: (alDel true k lv)))) (Nat.blt (Nat.succ k) nL)) x_582)) x_580)) (fun x_581 => none) x_578)) st) = _
  try simp only [iAddQ_eq, iMulQ_eq, iNegQ_eq, lenQ_eq, nthQ_eq, setQ_eq, appQ_eq, mapQ_eq, allQ_eq, anyQ_eq, dropQ_eq, takeQ_eq, revQ_eq, getDQ_eq, optLQ_eq, brecC]
  all_goals
    cases st with
    | nil =>
      try dsimp only [cond_false, cond_true]
      all_goals rfl
    | cons y_584 y_585 =>
      try dsimp only [cond_false, cond_true]
      all_goals
        cases y_584 with
        | inl y_586 =>
          try dsimp only [cond_false, cond_true]
          all_goals
            cases y_586 with
            | mk y_587 y_588 =>
              try dsimp only [cond_false, cond_true]
              all_goals
                cases y_587 with
                | false =>
                  try dsimp only [cond_false, cond_true]
                  all_goals rfl
                | true =>
                  try dsimp only [cond_false, cond_true]
                  all_goals
                    cases hq_5 : (Nat.blt ((Nat.succ k)) nL) with
                    | false =>
                      try dsimp only [cond_false, cond_true]
                      all_goals rfl
                    | true =>
                      try dsimp only [cond_false, cond_true]
                      all_goals rfl
        | inr y_589 =>
          try dsimp only [cond_false, cond_true]
          all_goals rfl
noncomputable def gs3 (nL N k : Nat) (st : List AV) (lv : AL) : Option (List AV × AL) :=
  (List.rec (motive := fun _ => Option (List AV × AL)) none (fun x_590 r_591 _ => (Sum.rec (motive := fun _ => Option (List AV × AL)) (fun x_592 => none) (fun x_593 => (Sum.rec (motive := fun _ => Option (List AV × AL)) (fun x_594 => (Option.rec (motive := fun _ => Option (List AV × AL)) none (fun j_596 => (Bool.rec (motive := fun _ => Option (List AV × AL)) none (Bool.rec (motive := fun _ => Option (List AV × AL)) none (some (r_591, ((k, (.inr (.inl (some j_596)))) :: (alDel false k lv)))) (okVA N (.inr (.inl (some j_596))))) (Nat.blt k nL))) x_594)) (fun x_595 => none) x_593)) x_590)) st)
theorem gs3_def (nL N k : Nat) (st : List AV) (lv : AL) : gs3 nL N k st lv = (match st with
  | .inr (.inl (some j)) :: r => bif Nat.blt k nL then (bif okVA N (.inr (.inl (some j))) then some (r, (k, .inr (.inl (some j))) :: alDel false k lv) else none) else none
  | _ => none) := by
  show (List.rec (motive := fun _ => Option (List AV × AL)) none (fun x_590 r_591 _ => (Sum.rec (motive := fun _ => Option (List AV × AL)) (fun x_592 => none) (fun x_593 => (Sum.rec (motive := fun _ => Option (List AV × AL)) (fun x_594 => (Option.rec (motive := fun _ => Option (List AV × AL)) none (fun j_596 => (Bool.rec (motive := fun _ => Option (List AV × AL)) none (Bool.rec (motive := fun _ => Option (List AV × AL)) none (some (r_591, ((k, (.inr (.inl (some j_596)))) :: (alDel false k lv)))) (okVA N (.inr (.inl (some j_596))))) (Nat.blt k nL))) x_594)) (fun x_595 => none) x_593)) x_590)) st) = _
  try simp only [iAddQ_eq, iMulQ_eq, iNegQ_eq, lenQ_eq, nthQ_eq, setQ_eq, appQ_eq, mapQ_eq, allQ_eq, anyQ_eq, dropQ_eq, takeQ_eq, revQ_eq, getDQ_eq, optLQ_eq, brecC]
  all_goals
    cases st with
    | nil =>
      try dsimp only [cond_false, cond_true]
      all_goals rfl
    | cons y_597 y_598 =>
      try dsimp only [cond_false, cond_true]
      all_goals
        cases y_597 with
        | inl y_599 =>
          try dsimp only [cond_false, cond_true]
          all_goals rfl
        | inr y_600 =>
          try dsimp only [cond_false, cond_true]
          all_goals
            cases y_600 with
            | inl y_601 =>
              try dsimp only [cond_false, cond_true]
              all_goals
                cases y_601 with
                | none =>
                  try dsimp only [cond_false, cond_true]
                  all_goals rfl
                | some y_602 =>
                  try dsimp only [cond_false, cond_true]
                  all_goals
                    cases hq_5 : (Nat.blt k nL) with
                    | false =>
                      try dsimp only [cond_false, cond_true]
                      all_goals rfl
                    | true =>
                      try dsimp only [cond_false, cond_true]
                      all_goals
                        cases hq_6 : (okVA N ((.inr ((.inl ((some y_602))))))) with
                        | false =>
                          try dsimp only [cond_false, cond_true]
                          all_goals rfl
                        | true =>
                          try dsimp only [cond_false, cond_true]
                          all_goals rfl
            | inr y_603 =>
              try dsimp only [cond_false, cond_true]
              all_goals rfl
noncomputable def g1 (i : Instr) (nL N : Nat) (st : List AV) (lv : AL) : Option (List AV × AL) := match i with
  | .istore k => gs1 nL k st lv
  | .istore_n k => gs1 nL (k : Nat) st lv
  | .lstore k => gs2 nL k st lv
  | .lstore_n k => gs2 nL (k : Nat) st lv
  | .astore k => gs3 nL N k st lv
  | .astore_n k => gs3 nL N (k : Nat) st lv
  | _ => none
theorem s1_ok {nL k N : Nat} {lv' : AL} (hs : rel2 (vrel ρ) cst st) (hl : lvR ρ clv lv) (hok : lvOk N clv) (h : gs1 nL k st lv = some (rest, lv')) : ∃ cr clv', stI nL clv k cst = some (cr, clv') ∧ rel2 (vrel ρ) cr rest ∧ lvR ρ clv' lv' ∧ lvOk N clv' := by
  rw [gs1_def] at h
  split at h
  · rename_i e r'
    cases hk : Nat.blt k nL with
    | false => rw [hk] at h; cases h
    | true =>
      rw [hk] at h
      cases h
      obtain ⟨v1, c1, e1, h1, hs1⟩ := rel2_cons hs
      obtain ⟨x', e4, h4⟩ := vI_inv h1
      subst e1; subst e4
      refine ⟨c1, lvSet1 clv k (.int x'), ?_, hs1, lvR_set1 hl h1, lvOk_set1 hok rfl⟩
      show (if k < nL then some (c1, lvSet1 clv k (.int x')) else none) = _
      rw [if_pos (blt_iff.mp hk)]
  · cases h
theorem s2_ok {nL k N : Nat} {lv' : AL} (hs : rel2 (vrel ρ) cst st) (hl : lvR ρ clv lv) (hok : lvOk N clv) (h : gs2 nL k st lv = some (rest, lv')) : ∃ cr clv', stL nL clv k cst = some (cr, clv') ∧ rel2 (vrel ρ) cr rest ∧ lvR ρ clv' lv' ∧ lvOk N clv' := by
  rw [gs2_def] at h
  split at h
  · rename_i e r'
    cases hk : Nat.blt (Nat.succ k) nL with
    | false => rw [hk] at h; cases h
    | true =>
      rw [hk] at h
      cases h
      obtain ⟨v1, c1, e1, h1, hs1⟩ := rel2_cons hs
      obtain ⟨x', e4, h4⟩ := vJ_inv h1
      subst e1; subst e4
      refine ⟨c1, lvSet2 clv k (.long x'), ?_, hs1, lvR_set2 hl h1, lvOk_set2 hok rfl⟩
      show (if k + 1 < nL then some (c1, lvSet2 clv k (.long x')) else none) = _
      rw [if_pos (blt_iff.mp hk)]
  · cases h
theorem s3_ok {nL k N : Nat} {lv' : AL} (hs : rel2 (vrel ρ) cst st) (hl : lvR ρ clv lv) (hok : lvOk N clv) (h : gs3 nL N k st lv = some (rest, lv')) : ∃ cr clv', stA nL clv k cst = some (cr, clv') ∧ rel2 (vrel ρ) cr rest ∧ lvR ρ clv' lv' ∧ lvOk N clv' := by
  rw [gs3_def] at h
  split at h
  · rename_i j r'
    cases hk : Nat.blt k nL with
    | false => rw [hk] at h; cases h
    | true =>
      rw [hk] at h
      cases hj : okVA N (.inr (.inl (some j))) with
      | false => rw [hj] at h; cases h
      | true =>
        rw [hj] at h
        cases h
        obtain ⟨v1, c1, e1, h1, hs1⟩ := rel2_cons hs
        have e4 : v1 = .ref j := h1
        subst e1; subst e4
        refine ⟨c1, lvSet1 clv k (.ref j), ?_, hs1, lvR_set1 hl h1, lvOk_set1 hok (okVA_ok h1 hj)⟩
        show (if k < nL then some (c1, lvSet1 clv k (.ref j)) else none) = _
        rw [if_pos (blt_iff.mp hk)]
  · cases h
theorem g1_ok {i : Instr} {nL N : Nat} {lv' : AL} (hs : rel2 (vrel ρ) cst st) (hl : lvR ρ clv lv) (hok : lvOk N clv) (h : g1 i nL N st lv = some (rest, lv')) : ∃ cr clv', stepB i nL cst clv = some (cr, clv') ∧ rel2 (vrel ρ) cr rest ∧ lvR ρ clv' lv' ∧ lvOk N clv' := by
  have no : ∀ {P : Prop}, (none : Option (List AV × AL)) = some (rest, lv') → P := fun h => by cases h
  cases i with
  | istore k => exact s1_ok hs hl hok h
  | istore_n k => exact s1_ok hs hl hok h
  | lstore k => exact s2_ok hs hl hok h
  | lstore_n k => exact s2_ok hs hl hok h
  | astore k => exact s3_ok hs hl hok h
  | astore_n k => exact s3_ok hs hl hok h
  | _ => exact no h
end STEP
