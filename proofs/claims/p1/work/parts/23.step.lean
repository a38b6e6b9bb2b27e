/-! ===== what an instruction does to abstract values: stack and locals ===== -/
abbrev RV : Type := AV ⊕ (Bool × OR)
noncomputable def rvOk (ρ : Nat → Int) (v : Value) (r : RV) : Prop := match r with
  | .inl a => vrel ρ v a
  | .inr (false, o) => ∃ x : Int32, v = .int x ∧ orOk ρ x.toInt o
  | .inr (true, o) => ∃ x : Int64, v = .long x ∧ orOk ρ x.toInt o
abbrev SV : Type := List AV × RV
noncomputable def kI (lo hi n : Int) (st : List AV) : Option SV := bif leI lo n then (bif leI n hi then some (st, .inl (avI (kL n))) else none) else none
noncomputable def b2 (f : Ln → Ln → OR) (st : List AV) : Option SV :=
  (List.rec (motive := fun _ => Option SV) none (fun x_444 x_445 _ => (Sum.rec (motive := fun _ => Option SV) (fun x_446 => (Prod.rec (motive := fun _ => Option SV) (fun x_448 y_449 => (Bool.rec (motive := fun _ => Option SV) (List.rec (motive := fun _ => Option SV) none (fun x_450 r_451 _ => (Sum.rec (motive := fun _ => Option SV) (fun x_452 => (Prod.rec (motive := fun _ => Option SV) (fun x_454 x_455 => (Bool.rec (motive := fun _ => Option SV) (some (r_451, (.inr (false, (f x_455 y_449))))) none x_454)) x_452)) (fun x_453 => none) x_450)) x_445) none x_448)) x_446)) (fun x_447 => none) x_444)) st)
theorem b2_def (f : Ln → Ln → OR) (st : List AV) : b2 f st = (match st with
  | .inl (false, y) :: .inl (false, x) :: r => some (r, .inr (false, f x y))
  | _ => none) := by
  show (List.rec (motive := fun _ => Option SV) none (fun x_444 x_445 _ => (Sum.rec (motive := fun _ => Option SV) (fun x_446 => (Prod.rec (motive := fun _ => Option SV) (fun x_448 y_449 => (Bool.rec (motive := fun _ => Option SV) (List.rec (motive := fun _ => Option SV) none (fun x_450 r_451 _ => (Sum.rec (motive := fun _ => Option SV) (fun x_452 => (Prod.rec (motive := fun _ => Option SV) (fun x_454 x_455 => (Bool.rec (motive := fun _ => Option SV) (some (r_451, (.inr (false, (f x_455 y_449))))) none x_454)) x_452)) (fun x_453 => none) x_450)) x_445) none x_448)) x_446)) (fun x_447 => none) x_444)) st) = _
  try simp only [iAddQ_eq, iMulQ_eq, iNegQ_eq, lenQ_eq, nthQ_eq, setQ_eq, appQ_eq, mapQ_eq, allQ_eq, anyQ_eq, dropQ_eq, takeQ_eq, revQ_eq, getDQ_eq, optLQ_eq, brecC]
  all_goals
    cases st with
    | nil =>
      try dsimp only [cond_false, cond_true]
      all_goals rfl
    | cons y_456 y_457 =>
      try dsimp only [cond_false, cond_true]
      all_goals
        cases y_456 with
        | inl y_458 =>
          try dsimp only [cond_false, cond_true]
          all_goals
            cases y_458 with
            | mk y_459 y_460 =>
              try dsimp only [cond_false, cond_true]
              all_goals
                cases y_459 with
                | false =>
                  try dsimp only [cond_false, cond_true]
                  all_goals
                    cases y_457 with
                    | nil =>
                      try dsimp only [cond_false, cond_true]
                      all_goals rfl
                    | cons y_461 y_462 =>
                      try dsimp only [cond_false, cond_true]
                      all_goals
                        cases y_461 with
                        | inl y_463 =>
                          try dsimp only [cond_false, cond_true]
                          all_goals
                            cases y_463 with
                            | mk y_464 y_465 =>
                              try dsimp only [cond_false, cond_true]
                              all_goals
                                cases y_464 with
                                | false =>
                                  try dsimp only [cond_false, cond_true]
                                  all_goals rfl
                                | true =>
                                  try dsimp only [cond_false, cond_true]
                                  all_goals rfl
                        | inr y_466 =>
                          try dsimp only [cond_false, cond_true]
                          all_goals rfl
                | true =>
                  try dsimp only [cond_false, cond_true]
                  all_goals rfl
        | inr y_467 =>
          try dsimp only [cond_false, cond_true]
          all_goals rfl
noncomputable def b2o (f : Ln → Ln → Option OR) (st : List AV) : Option SV :=
  (List.rec (motive := fun _ => Option SV) none (fun x_468 x_469 _ => (Sum.rec (motive := fun _ => Option SV) (fun x_470 => (Prod.rec (motive := fun _ => Option SV) (fun x_472 y_473 => (Bool.rec (motive := fun _ => Option SV) (List.rec (motive := fun _ => Option SV) none (fun x_474 r_475 _ => (Sum.rec (motive := fun _ => Option SV) (fun x_476 => (Prod.rec (motive := fun _ => Option SV) (fun x_478 x_479 => (Bool.rec (motive := fun _ => Option SV) (Option.rec (motive := fun _ => Option SV) none (fun o_480 => (some (r_475, (.inr (false, o_480))))) (f x_479 y_473)) none x_478)) x_476)) (fun x_477 => none) x_474)) x_469) none x_472)) x_470)) (fun x_471 => none) x_468)) st)
theorem b2o_def (f : Ln → Ln → Option OR) (st : List AV) : b2o f st = (match st with
  | .inl (false, y) :: .inl (false, x) :: r => (match f x y with
    | some o => some (r, .inr (false, o))
    | none => none)
  | _ => none) := by
  show (List.rec (motive := fun _ => Option SV) none (fun x_468 x_469 _ => (Sum.rec (motive := fun _ => Option SV) (fun x_470 => (Prod.rec (motive := fun _ => Option SV) (fun x_472 y_473 => (Bool.rec (motive := fun _ => Option SV) (List.rec (motive := fun _ => Option SV) none (fun x_474 r_475 _ => (Sum.rec (motive := fun _ => Option SV) (fun x_476 => (Prod.rec (motive := fun _ => Option SV) (fun x_478 x_479 => (Bool.rec (motive := fun _ => Option SV) (Option.rec (motive := fun _ => Option SV) none (fun o_480 => (some (r_475, (.inr (false, o_480))))) (f x_479 y_473)) none x_478)) x_476)) (fun x_477 => none) x_474)) x_469) none x_472)) x_470)) (fun x_471 => none) x_468)) st) = _
  try simp only [iAddQ_eq, iMulQ_eq, iNegQ_eq, lenQ_eq, nthQ_eq, setQ_eq, appQ_eq, mapQ_eq, allQ_eq, anyQ_eq, dropQ_eq, takeQ_eq, revQ_eq, getDQ_eq, optLQ_eq, brecC]
  all_goals
    cases st with
    | nil =>
      try dsimp only [cond_false, cond_true]
      all_goals rfl
    | cons y_481 y_482 =>
      try dsimp only [cond_false, cond_true]
      all_goals
        cases y_481 with
        | inl y_483 =>
          try dsimp only [cond_false, cond_true]
          all_goals
            cases y_483 with
            | mk y_484 y_485 =>
              try dsimp only [cond_false, cond_true]
              all_goals
                cases y_484 with
                | false =>
                  try dsimp only [cond_false, cond_true]
                  all_goals
                    cases y_482 with
                    | nil =>
                      try dsimp only [cond_false, cond_true]
                      all_goals rfl
                    | cons y_486 y_487 =>
                      try dsimp only [cond_false, cond_true]
                      all_goals
                        cases y_486 with
                        | inl y_488 =>
                          try dsimp only [cond_false, cond_true]
                          all_goals
                            cases y_488 with
                            | mk y_489 y_490 =>
                              try dsimp only [cond_false, cond_true]
                              all_goals
                                cases y_489 with
                                | false =>
                                  try dsimp only [cond_false, cond_true]
                                  all_goals
                                    cases hq_9 : (f y_490 y_485) with
                                    | none =>
                                      try dsimp only [cond_false, cond_true]
                                      all_goals rfl
                                    | some y_491 =>
                                      try dsimp only [cond_false, cond_true]
                                      all_goals rfl
                                | true =>
                                  try dsimp only [cond_false, cond_true]
                                  all_goals rfl
                        | inr y_492 =>
                          try dsimp only [cond_false, cond_true]
                          all_goals rfl
                | true =>
                  try dsimp only [cond_false, cond_true]
                  all_goals rfl
        | inr y_493 =>
          try dsimp only [cond_false, cond_true]
          all_goals rfl
noncomputable def l2 (f : Ln → Ln → OR) (st : List AV) : Option SV :=
  (List.rec (motive := fun _ => Option SV) none (fun x_494 x_495 _ => (Sum.rec (motive := fun _ => Option SV) (fun x_496 => (Prod.rec (motive := fun _ => Option SV) (fun x_498 y_499 => (Bool.rec (motive := fun _ => Option SV) none (List.rec (motive := fun _ => Option SV) none (fun x_500 r_501 _ => (Sum.rec (motive := fun _ => Option SV) (fun x_502 => (Prod.rec (motive := fun _ => Option SV) (fun x_504 x_505 => (Bool.rec (motive := fun _ => Option SV) none (some (r_501, (.inr (true, (f x_505 y_499))))) x_504)) x_502)) (fun x_503 => none) x_500)) x_495) x_498)) x_496)) (fun x_497 => none) x_494)) st)
theorem l2_def (f : Ln → Ln → OR) (st : List AV) : l2 f st = (match st with
  | .inl (true, y) :: .inl (true, x) :: r => some (r, .inr (true, f x y))
  | _ => none) := by
  show (List.rec (motive := fun _ => Option SV) none (fun x_494 x_495 _ => (Sum.rec (motive := fun _ => Option SV) (fun x_496 => (Prod.rec (motive := fun _ => Option SV) (fun x_498 y_499 => (Bool.rec (motive := fun _ => Option SV) none (List.rec (motive := fun _ => Option SV) none (fun x_500 r_501 _ => (Sum.rec (motive := fun _ => Option SV) (fun x_502 => (Prod.rec (motive := fun _ => Option SV) (fun x_504 x_505 => (Bool.rec (motive := fun _ => Option SV) none (some (r_501, (.inr (true, (f x_505 y_499))))) x_504)) x_502)) (fun x_503 => none) x_500)) x_495) x_498)) x_496)) (fun x_497 => none) x_494)) st) = _
  try simp only [iAddQ_eq, iMulQ_eq, iNegQ_eq, lenQ_eq, nthQ_eq, setQ_eq, appQ_eq, mapQ_eq, allQ_eq, anyQ_eq, dropQ_eq, takeQ_eq, revQ_eq, getDQ_eq, optLQ_eq, brecC]
  all_goals
    cases st with
    | nil =>
      try dsimp only [cond_false, cond_true]
      all_goals rfl
    | cons y_506 y_507 =>
      try dsimp only [cond_false, cond_true]
      all_goals
        cases y_506 with
        | inl y_508 =>
          try dsimp only [cond_false, cond_true]
          all_goals
            cases y_508 with
            | mk y_509 y_510 =>
              try dsimp only [cond_false, cond_true]
              all_goals
                cases y_509 with
                | false =>
                  try dsimp only [cond_false, cond_true]
                  all_goals rfl
                | true =>
                  try dsimp only [cond_false, cond_true]
                  all_goals
                    cases y_507 with
                    | nil =>
                      try dsimp only [cond_false, cond_true]
                      all_goals rfl
                    | cons y_511 y_512 =>
                      try dsimp only [cond_false, cond_true]
                      all_goals
                        cases y_511 with
                        | inl y_513 =>
                          try dsimp only [cond_false, cond_true]
                          all_goals
                            cases y_513 with
                            | mk y_514 y_515 =>
                              try dsimp only [cond_false, cond_true]
                              all_goals
                                cases y_514 with
                                | false =>
                                  try dsimp only [cond_false, cond_true]
                                  all_goals rfl
                                | true =>
                                  try dsimp only [cond_false, cond_true]
                                  all_goals rfl
                        | inr y_516 =>
                          try dsimp only [cond_false, cond_true]
                          all_goals rfl
        | inr y_517 =>
          try dsimp only [cond_false, cond_true]
          all_goals rfl
noncomputable def l2o (f : Ln → Ln → Option OR) (st : List AV) : Option SV :=
  (List.rec (motive := fun _ => Option SV) none (fun x_518 x_519 _ => (Sum.rec (motive := fun _ => Option SV) (fun x_520 => (Prod.rec (motive := fun _ => Option SV) (fun x_522 y_523 => (Bool.rec (motive := fun _ => Option SV) none (List.rec (motive := fun _ => Option SV) none (fun x_524 r_525 _ => (Sum.rec (motive := fun _ => Option SV) (fun x_526 => (Prod.rec (motive := fun _ => Option SV) (fun x_528 x_529 => (Bool.rec (motive := fun _ => Option SV) none (Option.rec (motive := fun _ => Option SV) none (fun o_530 => (some (r_525, (.inr (true, o_530))))) (f x_529 y_523)) x_528)) x_526)) (fun x_527 => none) x_524)) x_519) x_522)) x_520)) (fun x_521 => none) x_518)) st)
theorem l2o_def (f : Ln → Ln → Option OR) (st : List AV) : l2o f st = (match st with
  | .inl (true, y) :: .inl (true, x) :: r => (match f x y with
    | some o => some (r, .inr (true, o))
    | none => none)
  | _ => none) := by
  show (List.rec (motive := fun _ => Option SV) none (fun x_518 x_519 _ => (Sum.rec (motive := fun _ => Option SV) (fun x_520 => (Prod.rec (motive := fun _ => Option SV) (fun x_522 y_523 => (Bool.rec (motive := fun _ => Option SV) none (List.rec (motive := fun _ => Option SV) none (fun x_524 r_525 _ => (Sum.rec (motive := fun _ => Option SV) (fun x_526 => (Prod.rec (motive := fun _ => Option SV) (fun x_528 x_529 => (Bool.rec (motive := fun _ => Option SV) none (Option.rec (motive := fun _ => Option SV) none (fun o_530 => (some (r_525, (.inr (true, o_530))))) (f x_529 y_523)) x_528)) x_526)) (fun x_527 => none) x_524)) x_519) x_522)) x_520)) (fun x_521 => none) x_518)) st) = _
  try simp only [iAddQ_eq, iMulQ_eq, iNegQ_eq, lenQ_eq, nthQ_eq, setQ_eq, appQ_eq, mapQ_eq, allQ_eq, anyQ_eq, dropQ_eq, takeQ_eq, revQ_eq, getDQ_eq, optLQ_eq, brecC]
  all_goals
    cases st with
    | nil =>
      try dsimp only [cond_false, cond_true]
      all_goals rfl
    | cons y_531 y_532 =>
      try dsimp only [cond_false, cond_true]
      all_goals
        cases y_531 with
        | inl y_533 =>
          try dsimp only [cond_false, cond_true]
          all_goals
            cases y_533 with
            | mk y_534 y_535 =>
              try dsimp only [cond_false, cond_true]
              all_goals
                cases y_534 with
                | false =>
                  try dsimp only [cond_false, cond_true]
                  all_goals rfl
                | true =>
                  try dsimp only [cond_false, cond_true]
                  all_goals
                    cases y_532 with
                    | nil =>
                      try dsimp only [cond_false, cond_true]
                      all_goals rfl
                    | cons y_536 y_537 =>
                      try dsimp only [cond_false, cond_true]
                      all_goals
                        cases y_536 with
                        | inl y_538 =>
                          try dsimp only [cond_false, cond_true]
                          all_goals
                            cases y_538 with
                            | mk y_539 y_540 =>
                              try dsimp only [cond_false, cond_true]
                              all_goals
                                cases y_539 with
                                | false =>
                                  try dsimp only [cond_false, cond_true]
                                  all_goals rfl
                                | true =>
                                  try dsimp only [cond_false, cond_true]
                                  all_goals
                                    cases hq_9 : (f y_540 y_535) with
                                    | none =>
                                      try dsimp only [cond_false, cond_true]
                                      all_goals rfl
                                    | some y_541 =>
                                      try dsimp only [cond_false, cond_true]
                                      all_goals rfl
                        | inr y_542 =>
                          try dsimp only [cond_false, cond_true]
                          all_goals rfl
        | inr y_543 =>
          try dsimp only [cond_false, cond_true]
          all_goals rfl
noncomputable def u1 (f : Ln → OR) (st : List AV) : Option SV :=
  (List.rec (motive := fun _ => Option SV) none (fun x_544 r_545 _ => (Sum.rec (motive := fun _ => Option SV) (fun x_546 => (Prod.rec (motive := fun _ => Option SV) (fun x_548 x_549 => (Bool.rec (motive := fun _ => Option SV) (some (r_545, (.inr (false, (f x_549))))) none x_548)) x_546)) (fun x_547 => none) x_544)) st)
theorem u1_def (f : Ln → OR) (st : List AV) : u1 f st = (match st with
  | .inl (false, x) :: r => some (r, .inr (false, f x))
  | _ => none) := by
  show (List.rec (motive := fun _ => Option SV) none (fun x_544 r_545 _ => (Sum.rec (motive := fun _ => Option SV) (fun x_546 => (Prod.rec (motive := fun _ => Option SV) (fun x_548 x_549 => (Bool.rec (motive := fun _ => Option SV) (some (r_545, (.inr (false, (f x_549))))) none x_548)) x_546)) (fun x_547 => none) x_544)) st) = _
  try simp only [iAddQ_eq, iMulQ_eq, iNegQ_eq, lenQ_eq, nthQ_eq, setQ_eq, appQ_eq, mapQ_eq, allQ_eq, anyQ_eq, dropQ_eq, takeQ_eq, revQ_eq, getDQ_eq, optLQ_eq, brecC]
  all_goals
    cases st with
    | nil =>
      try dsimp only [cond_false, cond_true]
      all_goals rfl
    | cons y_550 y_551 =>
      try dsimp only [cond_false, cond_true]
      all_goals
        cases y_550 with
        | inl y_552 =>
          try dsimp only [cond_false, cond_true]
          all_goals
            cases y_552 with
            | mk y_553 y_554 =>
              try dsimp only [cond_false, cond_true]
              all_goals
                cases y_553 with
                | false =>
                  try dsimp only [cond_false, cond_true]
                  all_goals rfl
                | true =>
                  try dsimp only [cond_false, cond_true]
                  all_goals rfl
        | inr y_555 =>
          try dsimp only [cond_false, cond_true]
          all_goals rfl
noncomputable def lnB (a b : Bool) : Bool :=
  (Bool.rec (motive := fun _ => Bool) (Bool.rec (motive := fun _ => Bool) true false b) (Bool.rec (motive := fun _ => Bool) false true b) a)
theorem lnB_def (a b : Bool) : lnB a b = (match a, b with
  | true, true => true
  | false, false => true
  | _, _ => false) := by
  show (Bool.rec (motive := fun _ => Bool) (Bool.rec (motive := fun _ => Bool) true false b) (Bool.rec (motive := fun _ => Bool) false true b) a) = _
  try simp only [iAddQ_eq, iMulQ_eq, iNegQ_eq, lenQ_eq, nthQ_eq, setQ_eq, appQ_eq, mapQ_eq, allQ_eq, anyQ_eq, dropQ_eq, takeQ_eq, revQ_eq, getDQ_eq, optLQ_eq, brecC]
  all_goals
    cases a with
    | false =>
      try dsimp only [cond_false, cond_true]
      all_goals
        cases b with
        | false =>
          try dsimp only [cond_false, cond_true]
          all_goals rfl
        | true =>
          try dsimp only [cond_false, cond_true]
          all_goals rfl
    | true =>
      try dsimp only [cond_false, cond_true]
      all_goals
        cases b with
        | false =>
          try dsimp only [cond_false, cond_true]
          all_goals rfl
        | true =>
          try dsimp only [cond_false, cond_true]
          all_goals rfl
noncomputable def ldN (lg : Bool) (lv : AL) (k : Nat) (st : List AV) : Option SV :=
  (Option.rec (motive := fun _ => Option SV) none (fun x_556 => (Sum.rec (motive := fun _ => Option SV) (fun x_557 => (Prod.rec (motive := fun _ => Option SV) (fun b_559 e_560 => (Bool.rec (motive := fun _ => Option SV) none (some (st, (.inl (.inl (b_559, e_560))))) (lnB b_559 lg))) x_557)) (fun x_558 => none) x_556)) (alGet k lv))
theorem ldN_def (lg : Bool) (lv : AL) (k : Nat) (st : List AV) : ldN lg lv k st = (match alGet k lv with
  | some (.inl (b, e)) => bif lnB b lg then some (st, .inl (.inl (b, e))) else none
  | _ => none) := by
  show (Option.rec (motive := fun _ => Option SV) none (fun x_556 => (Sum.rec (motive := fun _ => Option SV) (fun x_557 => (Prod.rec (motive := fun _ => Option SV) (fun b_559 e_560 => (Bool.rec (motive := fun _ => Option SV) none (some (st, (.inl (.inl (b_559, e_560))))) (lnB b_559 lg))) x_557)) (fun x_558 => none) x_556)) (alGet k lv)) = _
  try simp only [iAddQ_eq, iMulQ_eq, iNegQ_eq, lenQ_eq, nthQ_eq, setQ_eq, appQ_eq, mapQ_eq, allQ_eq, anyQ_eq, dropQ_eq, takeQ_eq, revQ_eq, getDQ_eq, optLQ_eq, brecC]
  all_goals
    cases hq_1 : (alGet k lv) with
    | none =>
      try dsimp only [cond_false, cond_true]
      all_goals rfl
    | some y_561 =>
      try dsimp only [cond_false, cond_true]
      all_goals
        cases y_561 with
        | inl y_562 =>
          try dsimp only [cond_false, cond_true]
          all_goals
            cases y_562 with
            | mk y_563 y_564 =>
              try dsimp only [cond_false, cond_true]
              all_goals
                cases hq_4 : (lnB y_563 lg) with
                | false =>
                  try dsimp only [cond_false, cond_true]
                  all_goals rfl
                | true =>
                  try dsimp only [cond_false, cond_true]
                  all_goals rfl
        | inr y_565 =>
          try dsimp only [cond_false, cond_true]
          all_goals rfl
noncomputable def ldR (lv : AL) (k : Nat) (st : List AV) : Option SV :=
  (Option.rec (motive := fun _ => Option SV) none (fun x_566 => (Sum.rec (motive := fun _ => Option SV) (fun x_567 => none) (fun x_568 => (Sum.rec (motive := fun _ => Option SV) (fun x_569 => (Option.rec (motive := fun _ => Option SV) none (fun i_571 => (some (st, (.inl (.inr (.inl (some i_571))))))) x_569)) (fun x_570 => none) x_568)) x_566)) (alGet k lv))
theorem ldR_def (lv : AL) (k : Nat) (st : List AV) : ldR lv k st = (match alGet k lv with
  | some (.inr (.inl (some i))) => some (st, .inl (.inr (.inl (some i))))
  | _ => none) := by
  show (Option.rec (motive := fun _ => Option SV) none (fun x_566 => (Sum.rec (motive := fun _ => Option SV) (fun x_567 => none) (fun x_568 => (Sum.rec (motive := fun _ => Option SV) (fun x_569 => (Option.rec (motive := fun _ => Option SV) none (fun i_571 => (some (st, (.inl (.inr (.inl (some i_571))))))) x_569)) (fun x_570 => none) x_568)) x_566)) (alGet k lv)) = _
  all_goals
    cases hq_1 : (alGet k lv) with
    | none =>
      try dsimp only [cond_false, cond_true]
      all_goals rfl
    | some y_572 =>
      try dsimp only [cond_false, cond_true]
      all_goals
        cases y_572 with
        | inl y_573 =>
          try dsimp only [cond_false, cond_true]
          all_goals rfl
        | inr y_574 =>
          try dsimp only [cond_false, cond_true]
          all_goals
            cases y_574 with
            | inl y_575 =>
              try dsimp only [cond_false, cond_true]
              all_goals
                cases y_575 with
                | none =>
                  try dsimp only [cond_false, cond_true]
                  all_goals rfl
                | some y_576 =>
                  try dsimp only [cond_false, cond_true]
                  all_goals rfl
            | inr y_577 =>
              try dsimp only [cond_false, cond_true]
              all_goals rfl
noncomputable def g0 (i : Instr) (a : Nat) (tab : Tb) (fs : List Ln) (lv : AL) (st : List AV) : Option SV := match i with
  | .iconst n => kI lo32 hi32 n st
  | .bipush n => kI (.negSucc 127) (.ofNat 127) n st
  | .sipush n => kI (.negSucc 32767) (.ofNat 32767) n st
  | .lconst n => some (st, .inl (avJ (kL (Int.ofNat (n : Nat)))))
  | .ldc _ => some (st, .inl (avI (kL (cI a).toInt)))
  | .ldc_w _ => some (st, .inl (avI (kL (cI a).toInt)))
  | .ldc2_w _ => some (st, .inl (avJ (kL (cL a).toInt)))
  | .iload k => ldN false lv k st
  | .iload_n k => ldN false lv (k : Nat) st
  | .lload k => ldN true lv k st
  | .lload_n k => ldN true lv (k : Nat) st
  | .aload k => ldR lv k st
  | .aload_n k => ldR lv (k : Nat) st
  | .iadd => b2 (aAdd tab) st
  | .isub => b2 (aSub tab) st
  | .imul => b2 (aMul tab) st
  | .iand => b2 (aAnd tab) st
  | .ior => b2 (aOr tab) st
  | .ixor => b2 (aXor tab) st
  | .ishl => b2 (aShl tab) st
  | .ishr => b2 (aShr tab) st
  | .iushr => b2 (aUshr tab) st
  | .idiv => b2o (aDiv tab fs) st
  | .irem => b2o (aRem tab fs) st
  | .ineg => u1 (aNeg tab) st
  | .i2c => u1 (aI2c tab) st
  | .ladd => l2 (lAdd tab) st
  | .lsub => l2 (lSub tab) st
  | .lmul => l2 (lMul tab) st
  | .ldiv => l2o (lDiv tab fs) st
  | .lneg => match st with
    | .inl (true, x) :: r => some (r, .inr (true, lNeg tab x))
    | _ => none
  | .i2l => match st with
    | .inl (false, x) :: r => some (r, .inl (.inl (true, x)))
    | _ => none
  | .l2i => match st with
    | .inl (true, x) :: r => some (r, .inr (false, aL2i tab x))
    | _ => none
  | .lcmp => match st with
    | .inl (true, y) :: .inl (true, x) :: r => some (r, .inl (.inr (.inr (x, y))))
    | _ => none
  | .dup => match st with
    | v :: r => bif Nat.beq (catA v) 1 then some (v :: r, .inl v) else none
    | _ => none
  | .dup2 => match st with
    | v :: w :: r => bif Nat.beq (catA v) 1 then (bif Nat.beq (catA w) 1 then some (w :: v :: w :: r, .inl v) else none) else none
    | _ => none
  | _ => none
section STEP
variable {ρ : Nat → Int} {tab : Tb} {fs : List Ln} {cst : List Value} {st rest : List AV} {clv : LV} {lv : AL} {r : RV}
theorem vI_inv {v : Value} {e : Ln} (h : vrel ρ v (.inl (false, e))) : ∃ x : Int32, v = .int x ∧ x.toInt = ev ρ e := h
theorem vJ_inv {v : Value} {e : Ln} (h : vrel ρ v (.inl (true, e))) : ∃ x : Int64, v = .long x ∧ x.toInt = ev ρ e := h
theorem lnB_eq {a b : Bool} (h : lnB a b = true) : a = b := by
  revert h
  cases a <;> cases b <;> intro h <;> first | rfl | cases h
theorem kI_ok {lo hi n : Int} (h : kI lo hi n st = some (rest, r)) : lo ≤ n ∧ n ≤ hi ∧ rest = st ∧ r = .inl (avI (kL n)) := by
  unfold kI at h
  cases h1 : leI lo n with
  | false => rw [h1] at h; cases h
  | true =>
    rw [h1] at h
    cases h2 : leI n hi with
    | false => rw [h2] at h; cases h
    | true => rw [h2] at h; cases h; exact ⟨leI_le h1, leI_le h2, rfl, rfl⟩
theorem b2_ok {F : Int32 → Int32 → Int32} {f : Ln → Ln → OR} (hs : rel2 (vrel ρ) cst st) (hf : ∀ {a b : Ln} {x y : Int32}, x.toInt = ev ρ a → y.toInt = ev ρ b → orOk ρ (F x y).toInt (f a b)) (h : b2 f st = some (rest, r)) : ∃ v cr, bi F cst = some (v :: cr) ∧ rel2 (vrel ρ) cr rest ∧ rvOk ρ v r := by
  rw [b2_def] at h
  split at h
  · rename_i y x r'
    cases h
    obtain ⟨v1, c1, e1, h1, hs1⟩ := rel2_cons hs
    obtain ⟨v2, c2, e2, h2, hs2⟩ := rel2_cons hs1
    obtain ⟨y', e3, h3⟩ := vI_inv h1
    obtain ⟨x', e4, h4⟩ := vI_inv h2
    subst e1; subst e2; subst e3; subst e4
    exact ⟨_, _, rfl, hs2, _, rfl, hf h4 h3⟩
  · cases h
theorem b2o_ok {F : Int32 → Int32 → Int32} {f : Ln → Ln → Option OR} (hs : rel2 (vrel ρ) cst st) (hf : ∀ {a b : Ln} {x y : Int32} {o : OR}, x.toInt = ev ρ a → y.toInt = ev ρ b → f a b = some o → y ≠ 0 ∧ orOk ρ (F x y).toInt o) (h : b2o f st = some (rest, r)) : ∃ v cr, biN F cst = some (v :: cr) ∧ rel2 (vrel ρ) cr rest ∧ rvOk ρ v r := by
  rw [b2o_def] at h
  split at h
  · rename_i y x r'
    cases ho : f x y with
    | none => rw [ho] at h; cases h
    | some o =>
      rw [ho] at h
      cases h
      obtain ⟨v1, c1, e1, h1, hs1⟩ := rel2_cons hs
      obtain ⟨v2, c2, e2, h2, hs2⟩ := rel2_cons hs1
      obtain ⟨y', e3, h3⟩ := vI_inv h1
      obtain ⟨x', e4, h4⟩ := vI_inv h2
      subst e1; subst e2; subst e3; subst e4
      obtain ⟨n0, hor⟩ := hf h4 h3 ho
      refine ⟨_, _, ?_, hs2, _, rfl, hor⟩
      show (if y' = 0 then none else some (.int (F x' y') :: c2)) = _
      rw [if_neg n0]
  · cases h
theorem l2_ok {F : Int64 → Int64 → Int64} {f : Ln → Ln → OR} (hs : rel2 (vrel ρ) cst st) (hf : ∀ {a b : Ln} {x y : Int64}, x.toInt = ev ρ a → y.toInt = ev ρ b → orOk ρ (F x y).toInt (f a b)) (h : l2 f st = some (rest, r)) : ∃ v cr, bl F cst = some (v :: cr) ∧ rel2 (vrel ρ) cr rest ∧ rvOk ρ v r := by
  rw [l2_def] at h
  split at h
  · rename_i y x r'
    cases h
    obtain ⟨v1, c1, e1, h1, hs1⟩ := rel2_cons hs
    obtain ⟨v2, c2, e2, h2, hs2⟩ := rel2_cons hs1
    obtain ⟨y', e3, h3⟩ := vJ_inv h1
    obtain ⟨x', e4, h4⟩ := vJ_inv h2
    subst e1; subst e2; subst e3; subst e4
    exact ⟨_, _, rfl, hs2, _, rfl, hf h4 h3⟩
  · cases h
theorem l2o_ok {F : Int64 → Int64 → Int64} {f : Ln → Ln → Option OR} (hs : rel2 (vrel ρ) cst st) (hf : ∀ {a b : Ln} {x y : Int64} {o : OR}, x.toInt = ev ρ a → y.toInt = ev ρ b → f a b = some o → y ≠ 0 ∧ orOk ρ (F x y).toInt o) (h : l2o f st = some (rest, r)) : ∃ v cr, blN F cst = some (v :: cr) ∧ rel2 (vrel ρ) cr rest ∧ rvOk ρ v r := by
  rw [l2o_def] at h
  split at h
  · rename_i y x r'
    cases ho : f x y with
    | none => rw [ho] at h; cases h
    | some o =>
      rw [ho] at h
      cases h
      obtain ⟨v1, c1, e1, h1, hs1⟩ := rel2_cons hs
      obtain ⟨v2, c2, e2, h2, hs2⟩ := rel2_cons hs1
      obtain ⟨y', e3, h3⟩ := vJ_inv h1
      obtain ⟨x', e4, h4⟩ := vJ_inv h2
      subst e1; subst e2; subst e3; subst e4
      obtain ⟨n0, hor⟩ := hf h4 h3 ho
      refine ⟨_, _, ?_, hs2, _, rfl, hor⟩
      show (if y' = 0 then none else some (.long (F x' y') :: c2)) = _
      rw [if_neg n0]
  · cases h
theorem u1_ok {F : Int32 → Int32} {f : Ln → OR} (hs : rel2 (vrel ρ) cst st) (hf : ∀ {a : Ln} {x : Int32}, x.toInt = ev ρ a → orOk ρ (F x).toInt (f a)) (h : u1 f st = some (rest, r)) : ∃ v cr, ui F cst = some (v :: cr) ∧ rel2 (vrel ρ) cr rest ∧ rvOk ρ v r := by
  rw [u1_def] at h
  split at h
  · rename_i x r'
    cases h
    obtain ⟨v1, c1, e1, h1, hs1⟩ := rel2_cons hs
    obtain ⟨x', e4, h4⟩ := vI_inv h1
    subst e1; subst e4
    exact ⟨_, _, rfl, hs1, _, rfl, hf h4⟩
  · cases h
theorem ldI_ok {k : Nat} (hs : rel2 (vrel ρ) cst st) (hl : lvR ρ clv lv) (h : ldN false lv k st = some (rest, r)) : ∃ v cr, ldI clv k cst = some (v :: cr) ∧ rel2 (vrel ρ) cr rest ∧ rvOk ρ v r := by
  rw [ldN_def] at h
  split at h
  · rename_i b e hg
    cases hb : lnB b false with
    | false => rw [hb] at h; cases h
    | true =>
      rw [hb] at h
      have := lnB_eq hb
      subst this
      cases h
      obtain ⟨v, hv, hr⟩ := lvR_get hl hg
      obtain ⟨x, e1, h1⟩ := vI_inv hr
      subst e1
      refine ⟨.int x, cst, ?_, hs, hr⟩
      unfold ldI
      rw [hv]
  · cases h
theorem ldL_ok {k : Nat} (hs : rel2 (vrel ρ) cst st) (hl : lvR ρ clv lv) (h : ldN true lv k st = some (rest, r)) : ∃ v cr, ldL clv k cst = some (v :: cr) ∧ rel2 (vrel ρ) cr rest ∧ rvOk ρ v r := by
  rw [ldN_def] at h
  split at h
  · rename_i b e hg
    cases hb : lnB b true with
    | false => rw [hb] at h; cases h
    | true =>
      rw [hb] at h
      have := lnB_eq hb
      subst this
      cases h
      obtain ⟨v, hv, hr⟩ := lvR_get hl hg
      obtain ⟨x, e1, h1⟩ := vJ_inv hr
      subst e1
      refine ⟨.long x, cst, ?_, hs, hr⟩
      unfold ldL
      rw [hv]
  · cases h
theorem ldA_ok {k : Nat} (hs : rel2 (vrel ρ) cst st) (hl : lvR ρ clv lv) (h : ldR lv k st = some (rest, r)) : ∃ v cr, ldA clv k cst = some (v :: cr) ∧ rel2 (vrel ρ) cr rest ∧ rvOk ρ v r := by
  rw [ldR_def] at h
  split at h
  · rename_i i hg
    cases h
    obtain ⟨v, hv, hr⟩ := lvR_get hl hg
    have e1 : v = .ref i := hr
    subst e1
    refine ⟨.ref i, cst, ?_, hs, hr⟩
    unfold ldA
    rw [hv]
  · cases h
theorem k32 {n : Int} (h1 : lo32 ≤ n) (h2 : n ≤ hi32) : (Int32.ofInt n).toInt = n := by
  have e1 : lo32 = -2147483648 := rfl
  have e2 : hi32 = 2147483647 := rfl
  exact Int32.toInt_ofInt_of_le (by omega) (by omega)
theorem lcst : ∀ n : Fin 2, (Int64.ofNat (n : Nat)).toInt = Int.ofNat (n : Nat) := by decide
set_option maxHeartbeats 4000000 in
theorem g0_ok {i : Instr} {a : Nat} (ht : tOk ρ tab) (hf : fOk ρ fs) (hs : rel2 (vrel ρ) cst st) (hl : lvR ρ clv lv) (h : g0 i a tab fs lv st = some (rest, r)) : ∃ v cr, stepA i a cst clv = some (v :: cr) ∧ rel2 (vrel ρ) cr rest ∧ rvOk ρ v r := by
  have no : ∀ {P : Prop}, (none : Option SV) = some (rest, r) → P := fun h => by cases h
  cases i with
  | iconst n =>
    obtain ⟨h1, h2, rfl, rfl⟩ := kI_ok h
    exact ⟨_, _, rfl, hs, _, rfl, (k32 h1 h2).trans (ev_k ρ n).symm⟩
  | bipush n =>
    obtain ⟨h1, h2, rfl, rfl⟩ := kI_ok h
    refine ⟨_, _, rfl, hs, _, rfl, ?_⟩
    rw [ev_k, Int8.toInt_toInt32]
    have e1 : Int.negSucc 127 = -128 := rfl
    have e2 : Int.ofNat 127 = 127 := rfl
    exact Int8.toInt_ofInt_of_le (by omega) (by omega)
  | sipush n =>
    obtain ⟨h1, h2, rfl, rfl⟩ := kI_ok h
    refine ⟨_, _, rfl, hs, _, rfl, ?_⟩
    rw [ev_k, Int16.toInt_toInt32]
    have e1 : Int.negSucc 32767 = -32768 := rfl
    have e2 : Int.ofNat 32767 = 32767 := rfl
    exact Int16.toInt_ofInt_of_le (by omega) (by omega)
  | lconst n =>
    cases h
    exact ⟨_, _, rfl, hs, _, rfl, (lcst n).trans (ev_k ρ _).symm⟩
  | ldc _ =>
    cases h
    exact ⟨_, _, rfl, hs, _, rfl, (ev_k ρ _).symm⟩
  | ldc_w _ =>
    cases h
    exact ⟨_, _, rfl, hs, _, rfl, (ev_k ρ _).symm⟩
  | ldc2_w _ =>
    cases h
    exact ⟨_, _, rfl, hs, _, rfl, (ev_k ρ _).symm⟩
  | iload k => exact ldI_ok hs hl h
  | iload_n k => exact ldI_ok hs hl h
  | lload k => exact ldL_ok hs hl h
  | lload_n k => exact ldL_ok hs hl h
  | aload k => exact ldA_ok hs hl h
  | aload_n k => exact ldA_ok hs hl h
  | iadd => exact b2_ok hs (aAdd_ok ht) h
  | isub => exact b2_ok hs (aSub_ok ht) h
  | imul => exact b2_ok hs (aMul_ok ht) h
  | iand => exact b2_ok hs (aAnd_ok ht) h
  | ior => exact b2_ok hs (aOr_ok ht) h
  | ixor => exact b2_ok hs (aXor_ok ht) h
  | ishl => exact b2_ok hs (aShl_ok ht) h
  | ishr => exact b2_ok hs (aShr_ok ht) h
  | iushr => exact b2_ok hs (aUshr_ok ht) h
  | idiv => exact b2o_ok hs (fun ha hb hr => aDiv_ok ht hf ha hb hr) h
  | irem => exact b2o_ok hs (fun ha hb hr => aRem_ok ht hf ha hb hr) h
  | ineg => exact u1_ok hs (aNeg_ok ht) h
  | i2c => exact u1_ok hs (aI2c_ok ht) h
  | ladd => exact l2_ok hs (lAdd_ok ht) h
  | lsub => exact l2_ok hs (lSub_ok ht) h
  | lmul => exact l2_ok hs (lMul_ok ht) h
  | ldiv => exact l2o_ok hs (fun ha hb hr => lDiv_ok ht hf ha hb hr) h
  | lneg =>
    simp only [g0] at h
    split at h
    · cases h
      obtain ⟨v1, c1, e1, h1, hs1⟩ := rel2_cons hs
      obtain ⟨x', e4, h4⟩ := vJ_inv h1
      subst e1; subst e4
      exact ⟨_, _, rfl, hs1, _, rfl, lNeg_ok ht h4⟩
    · cases h
  | i2l =>
    simp only [g0] at h
    split at h
    · cases h
      obtain ⟨v1, c1, e1, h1, hs1⟩ := rel2_cons hs
      obtain ⟨x', e4, h4⟩ := vI_inv h1
      subst e1; subst e4
      exact ⟨_, _, rfl, hs1, _, rfl, (i2l_toInt x').trans h4⟩
    · cases h
  | l2i =>
    simp only [g0] at h
    split at h
    · cases h
      obtain ⟨v1, c1, e1, h1, hs1⟩ := rel2_cons hs
      obtain ⟨x', e4, h4⟩ := vJ_inv h1
      subst e1; subst e4
      exact ⟨_, _, rfl, hs1, _, rfl, aL2i_ok ht h4⟩
    · cases h
  | lcmp =>
    simp only [g0] at h
    split at h
    · cases h
      obtain ⟨v1, c1, e1, h1, hs1⟩ := rel2_cons hs
      obtain ⟨v2, c2, e2, h2, hs2⟩ := rel2_cons hs1
      obtain ⟨y', e3, h3⟩ := vJ_inv h1
      obtain ⟨x', e4, h4⟩ := vJ_inv h2
      subst e1; subst e2; subst e3; subst e4
      refine ⟨_, _, rfl, hs2, ?_⟩
      show Value.int (lg_cmp x' y') = .int (cmpZ _ _)
      rw [← h3, ← h4]
      unfold lg_cmp cmpZ
      simp only [gt_iff_lt, Int64.lt_iff_toInt_lt, ← Int64.toInt_inj]
    · cases h
  | dup =>
    simp only [g0] at h
    split at h
    · rename_i v r'
      cases hc : Nat.beq (catA v) 1 with
      | false => rw [hc] at h; cases h
      | true =>
        rw [hc] at h
        cases h
        obtain ⟨v1, c1, e1, h1, hs1⟩ := rel2_cons hs
        subst e1
        refine ⟨v1, v1 :: c1, ?_, ⟨h1, hs1⟩, h1⟩
        show (if v1.category = 1 then some (v1 :: v1 :: c1) else none) = _
        rw [if_pos (by rw [catA_ok h1]; exact Nat.eq_of_beq_eq_true hc)]
    · cases h
  | dup2 =>
    simp only [g0] at h
    split at h
    · rename_i v w r'
      cases hc : Nat.beq (catA v) 1 with
      | false => rw [hc] at h; cases h
      | true =>
        rw [hc] at h
        cases hc2 : Nat.beq (catA w) 1 with
        | false => rw [hc2] at h; cases h
        | true =>
          rw [hc2] at h
          cases h
          obtain ⟨v1, c1, e1, h1, hs1⟩ := rel2_cons hs
          obtain ⟨v2, c2, e2, h2, hs2⟩ := rel2_cons hs1
          subst e1; subst e2
          refine ⟨v1, v2 :: v1 :: v2 :: c2, ?_, ⟨h2, h1, h2, hs2⟩, h1⟩
          show (if v1.category = 1 ∧ v2.category = 1 then some (v1 :: v2 :: v1 :: v2 :: c2) else none) = _
          rw [if_pos ⟨by rw [catA_ok h1]; exact Nat.eq_of_beq_eq_true hc, by rw [catA_ok h2]; exact Nat.eq_of_beq_eq_true hc2⟩]
    · cases h
  | _ => exact no h
-- into locals
noncomputable def gs1 (nL k : Nat) (st : List AV) (lv : AL) : Option (List AV × AL) :=
  (List.rec (motive := fun _ => Option (List AV × AL)) none (fun x_578 r_579 _ => (Sum.rec (motive := fun _ => Option (List AV × AL)) (fun x_580 => (Prod.rec (motive := fun _ => Option (List AV × AL)) (fun x_582 e_583 => (Bool.rec (motive := fun _ => Option (List AV × AL)) (Bool.rec (motive := fun _ => Option (List AV × AL)) none (some (r_579, ((k, (.inl (false, e_583))) :: (alDel false k lv)))) (Nat.blt k nL)) none x_582)) x_580)) (fun x_581 => none) x_578)) st)
theorem gs1_def (nL k : Nat) (st : List AV) (lv : AL) : gs1 nL k st lv = (match st with
  | .inl (false, e) :: r => bif Nat.blt k nL then some (r, (k, .inl (false, e)) :: alDel false k lv) else none
  | _ => none) := by
  show (List.rec (motive := fun _ => Option (List AV × AL)) none (fun x_578 r_579 _ => (Sum.rec (motive := fun _ => Option (List AV × AL)) (fun x_580 => (Prod.rec (motive := fun _ => Option (List AV × AL)) (fun x_582 e_583 => (Bool.rec (motive := fun _ => Option (List AV × AL)) (Bool.rec (motive := fun _ => Option (List AV × AL)) none (some (r_579, ((k, (.inl (false, e_583))) :: (alDel false k lv)))) (Nat.blt k nL)) none x_582)) x_580)) (fun x_581 => none) x_578)) st) = _
  try simp only [iAddQ_eq, iMulQ_eq, iNegQ_eq, lenQ_eq, nthQ_eq, setQ_eq, appQ_eq, mapQ_eq, allQ_eq, anyQ_eq, dropQ_eq, takeQ_eq, revQ_eq, getDQ_eq, optLQ_eq, brecC]
  all_goals
    cases st with
    | nil =>
      try dsimp only [cond_false, cond_true]
      all_goals rfl
    | cons y_584 y_585 =>
      try dsimp only [cond_false, cond_true]
      all_goals
        cases y_584 with
        | inl y_586 =>
          try dsimp only [cond_false, cond_true]
          all_goals
            cases y_586 with
            | mk y_587 y_588 =>
              try dsimp only [cond_false, cond_true]
              all_goals
                cases y_587 with
                | false =>
                  try dsimp only [cond_false, cond_true]
                  all_goals
                    cases hq_5 : (Nat.blt k nL) with
                    | false =>
                      try dsimp only [cond_false, cond_true]
                      all_goals rfl
                    | true =>
                      try dsimp only [cond_false, cond_true]
                      all_goals rfl
                | true =>
                  try dsimp only [cond_false, cond_true]
                  all_goals rfl
        | inr y_589 =>
          try dsimp only [cond_false, cond_true]
          all_goals rfl
noncomputable def gs2 (nL k : Nat) (st : List AV) (lv : AL) : Option (List AV × AL) :=
  (List.rec (motive := fun _ => Option (List AV × AL)) none (fun x_590 r_591 _ => (Sum.rec (motive := fun _ => Option (List AV × AL)) (fun x_592 => (Prod.rec (motive := fun _ => Option (List AV × AL)) (fun x_594 e_595 => (Bool.rec (motive := fun _ => Option (List AV × AL)) none (Bool.rec (motive := fun _ => Option (List AV × AL)) none (some (r_591, ((k, (.inl (true, e_595))) :: (alDel true k lv)))) (Nat.blt (Nat.succ k) nL)) x_594)) x_592)) (fun x_593 => none) x_590)) st)
theorem gs2_def (nL k : Nat) (st : List AV) (lv : AL) : gs2 nL k st lv = (match st with
  | .inl (true, e) :: r => bif Nat.blt (Nat.succ k) nL then some (r, (k, .inl (true, e)) :: alDel true k lv) else none
  | _ => none) := by
  show (List.rec (motive := fun _ => Option (List AV × AL)) none (fun x_590 r_591 _ => (Sum.rec (motive := fun _ => Option (List AV × AL)) (fun x_592 => (Prod.rec (motive := fun _ => Option (List AV × AL)) (fun x_594 e_595 => (Bool.rec (motive := fun _ => Option (List AV × AL)) none (Bool.rec (motive := fun _ => Option (List AV × AL)) none (some (r_591, ((k, (.inl (true, e_595))) :: (alDel true k lv)))) (Nat.blt (Nat.succ k) nL)) x_594)) x_592)) (fun x_593 => none) x_590)) st) = _
  try simp only [iAddQ_eq, iMulQ_eq, iNegQ_eq, lenQ_eq, nthQ_eq, setQ_eq, appQ_eq, mapQ_eq, allQ_eq, anyQ_eq, dropQ_eq, takeQ_eq, revQ_eq, getDQ_eq, optLQ_eq, brecC]
  all_goals
    cases st with
    | nil =>
      try dsimp only [cond_false, cond_true]
      all_goals rfl
    | cons y_596 y_597 =>
      try dsimp only [cond_false, cond_true]
      all_goals
        cases y_596 with
        | inl y_598 =>
          try dsimp only [cond_false, cond_true]
          all_goals
            cases y_598 with
            | mk y_599 y_600 =>
              try dsimp only [cond_false, cond_true]
              all_goals
                cases y_599 with
                | false =>
                  try dsimp only [cond_false, cond_true]
                  all_goals rfl
                | true =>
                  try dsimp only [cond_false, cond_true]
                  all_goals
                    cases hq_5 : (Nat.blt ((Nat.succ k)) nL) with
                    | false =>
                      try dsimp only [cond_false, cond_true]
                      all_goals rfl
                    | true =>
                      try dsimp only [cond_false, cond_true]
                      all_goals rfl
        | inr y_601 =>
          try dsimp only [cond_false, cond_true]
          all_goals rfl
noncomputable def gs3 (nL N k : Nat) (st : List AV) (lv : AL) : Option (List AV × AL) :=
  (List.rec (motive := fun _ => Option (List AV × AL)) none (fun x_602 r_603 _ => (Sum.rec (motive := fun _ => Option (List AV × AL)) (fun x_604 => none) (fun x_605 => (Sum.rec (motive := fun _ => Option (List AV × AL)) (fun x_606 => (Option.rec (motive := fun _ => Option (List AV × AL)) none (fun j_608 => (Bool.rec (motive := fun _ => Option (List AV × AL)) none (Bool.rec (motive := fun _ => Option (List AV × AL)) none (some (r_603, ((k, (.inr (.inl (some j_608)))) :: (alDel false k lv)))) (okVA N (.inr (.inl (some j_608))))) (Nat.blt k nL))) x_606)) (fun x_607 => none) x_605)) x_602)) st)
theorem gs3_def (nL N k : Nat) (st : List AV) (lv : AL) : gs3 nL N k st lv = (match st with
  | .inr (.inl (some j)) :: r => bif Nat.blt k nL then (bif okVA N (.inr (.inl (some j))) then some (r, (k, .inr (.inl (some j))) :: alDel false k lv) else none) else none
  | _ => none) := by
  show (List.rec (motive := fun _ => Option (List AV × AL)) none (fun x_602 r_603 _ => (Sum.rec (motive := fun _ => Option (List AV × AL)) (fun x_604 => none) (fun x_605 => (Sum.rec (motive := fun _ => Option (List AV × AL)) (fun x_606 => (Option.rec (motive := fun _ => Option (List AV × AL)) none (fun j_608 => (Bool.rec (motive := fun _ => Option (List AV × AL)) none (Bool.rec (motive := fun _ => Option (List AV × AL)) none (some (r_603, ((k, (.inr (.inl (some j_608)))) :: (alDel false k lv)))) (okVA N (.inr (.inl (some j_608))))) (Nat.blt k nL))) x_606)) (fun x_607 => none) x_605)) x_602)) st) = _
  try simp only [iAddQ_eq, iMulQ_eq, iNegQ_eq, lenQ_eq, nthQ_eq, setQ_eq, appQ_eq, mapQ_eq, allQ_eq, anyQ_eq, dropQ_eq, takeQ_eq, revQ_eq, getDQ_eq, optLQ_eq, brecC]
  all_goals
    cases st with
    | nil =>
      try dsimp only [cond_false, cond_true]
      all_goals rfl
    | cons y_609 y_610 =>
      try dsimp only [cond_false, cond_true]
      all_goals
        cases y_609 with
        | inl y_611 =>
          try dsimp only [cond_false, cond_true]
          all_goals rfl
        | inr y_612 =>
          try dsimp only [cond_false, cond_true]
          all_goals
            cases y_612 with
            | inl y_613 =>
              try dsimp only [cond_false, cond_true]
              all_goals
                cases y_613 with
                | none =>
                  try dsimp only [cond_false, cond_true]
                  all_goals rfl
                | some y_614 =>
                  try dsimp only [cond_false, cond_true]
                  all_goals
                    cases hq_5 : (Nat.blt k nL) with
                    | false =>
                      try dsimp only [cond_false, cond_true]
                      all_goals rfl
                    | true =>
                      try dsimp only [cond_false, cond_true]
                      all_goals
                        cases hq_6 : (okVA N ((.inr ((.inl ((some y_614))))))) with
                        | false =>
                          try dsimp only [cond_false, cond_true]
                          all_goals rfl
                        | true =>
                          try dsimp only [cond_false, cond_true]
                          all_goals rfl
            | inr y_615 =>
              try dsimp only [cond_false, cond_true]
              all_goals rfl
noncomputable def gs4 (c : Nat) (st : List AV) (lv : AL) : Option (List AV × AL) :=
  (List.rec (motive := fun _ => Option (List AV × AL)) none (fun v_616 r_617 _ => (Bool.rec (motive := fun _ => Option (List AV × AL)) none (some (r_617, lv)) (Nat.beq (catA v_616) c))) st)
theorem gs4_def (c : Nat) (st : List AV) (lv : AL) : gs4 c st lv = (match st with
  | v :: r => bif Nat.beq (catA v) c then some (r, lv) else none
  | _ => none) := by
  show (List.rec (motive := fun _ => Option (List AV × AL)) none (fun v_616 r_617 _ => (Bool.rec (motive := fun _ => Option (List AV × AL)) none (some (r_617, lv)) (Nat.beq (catA v_616) c))) st) = _
  try simp only [iAddQ_eq, iMulQ_eq, iNegQ_eq, lenQ_eq, nthQ_eq, setQ_eq, appQ_eq, mapQ_eq, allQ_eq, anyQ_eq, dropQ_eq, takeQ_eq, revQ_eq, getDQ_eq, optLQ_eq, brecC]
  all_goals
    cases st with
    | nil =>
      try dsimp only [cond_false, cond_true]
      all_goals rfl
    | cons y_618 y_619 =>
      try dsimp only [cond_false, cond_true]
      all_goals
        cases hq_2 : (Nat.beq ((catA y_618)) c) with
        | false =>
          try dsimp only [cond_false, cond_true]
          all_goals rfl
        | true =>
          try dsimp only [cond_false, cond_true]
          all_goals rfl
noncomputable def g1 (i : Instr) (nL N : Nat) (st : List AV) (lv : AL) : Option (List AV × AL) := match i with
  | .istore k => gs1 nL k st lv
  | .istore_n k => gs1 nL (k : Nat) st lv
  | .lstore k => gs2 nL k st lv
  | .lstore_n k => gs2 nL (k : Nat) st lv
  | .astore k => gs3 nL N k st lv
  | .astore_n k => gs3 nL N (k : Nat) st lv
  | .pop => gs4 1 st lv
  | .pop2 => gs4 2 st lv
  | _ => none
theorem s1_ok {nL k N : Nat} {lv' : AL} (hs : rel2 (vrel ρ) cst st) (hl : lvR ρ clv lv) (hok : lvOk N clv) (h : gs1 nL k st lv = some (rest, lv')) : ∃ cr clv', stI nL clv k cst = some (cr, clv') ∧ rel2 (vrel ρ) cr rest ∧ lvR ρ clv' lv' ∧ lvOk N clv' := by
  rw [gs1_def] at h
  split at h
  · rename_i e r'
    cases hk : Nat.blt k nL with
    | false => rw [hk] at h; cases h
    | true =>
      rw [hk] at h
      cases h
      obtain ⟨v1, c1, e1, h1, hs1⟩ := rel2_cons hs
      obtain ⟨x', e4, h4⟩ := vI_inv h1
      subst e1; subst e4
      refine ⟨c1, lvSet1 clv k (.int x'), ?_, hs1, lvR_set1 hl h1, lvOk_set1 hok rfl⟩
      show (if k < nL then some (c1, lvSet1 clv k (.int x')) else none) = _
      rw [if_pos (blt_iff.mp hk)]
  · cases h
theorem s2_ok {nL k N : Nat} {lv' : AL} (hs : rel2 (vrel ρ) cst st) (hl : lvR ρ clv lv) (hok : lvOk N clv) (h : gs2 nL k st lv = some (rest, lv')) : ∃ cr clv', stL nL clv k cst = some (cr, clv') ∧ rel2 (vrel ρ) cr rest ∧ lvR ρ clv' lv' ∧ lvOk N clv' := by
  rw [gs2_def] at h
  split at h
  · rename_i e r'
    cases hk : Nat.blt (Nat.succ k) nL with
    | false => rw [hk] at h; cases h
    | true =>
      rw [hk] at h
      cases h
      obtain ⟨v1, c1, e1, h1, hs1⟩ := rel2_cons hs
      obtain ⟨x', e4, h4⟩ := vJ_inv h1
      subst e1; subst e4
      refine ⟨c1, lvSet2 clv k (.long x'), ?_, hs1, lvR_set2 hl h1, lvOk_set2 hok rfl⟩
      show (if k + 1 < nL then some (c1, lvSet2 clv k (.long x')) else none) = _
      rw [if_pos (blt_iff.mp hk)]
  · cases h
theorem s3_ok {nL k N : Nat} {lv' : AL} (hs : rel2 (vrel ρ) cst st) (hl : lvR ρ clv lv) (hok : lvOk N clv) (h : gs3 nL N k st lv = some (rest, lv')) : ∃ cr clv', stA nL clv k cst = some (cr, clv') ∧ rel2 (vrel ρ) cr rest ∧ lvR ρ clv' lv' ∧ lvOk N clv' := by
  rw [gs3_def] at h
  split at h
  · rename_i j r'
    cases hk : Nat.blt k nL with
    | false => rw [hk] at h; cases h
    | true =>
      rw [hk] at h
      cases hj : okVA N (.inr (.inl (some j))) with
      | false => rw [hj] at h; cases h
      | true =>
        rw [hj] at h
        cases h
        obtain ⟨v1, c1, e1, h1, hs1⟩ := rel2_cons hs
        have e4 : v1 = .ref j := h1
        subst e1; subst e4
        refine ⟨c1, lvSet1 clv k (.ref j), ?_, hs1, lvR_set1 hl h1, lvOk_set1 hok (okVA_ok h1 hj)⟩
        show (if k < nL then some (c1, lvSet1 clv k (.ref j)) else none) = _
        rw [if_pos (blt_iff.mp hk)]
  · cases h
theorem s4_ok {c : Nat} {lv' : AL} (hs : rel2 (vrel ρ) cst st) (h : gs4 c st lv = some (rest, lv')) : ∃ v cr, cst = v :: cr ∧ v.category = c ∧ rel2 (vrel ρ) cr rest ∧ lv' = lv := by
  rw [gs4_def] at h
  split at h
  · rename_i v r'
    cases hc : Nat.beq (catA v) c with
    | false => rw [hc] at h; cases h
    | true =>
      rw [hc] at h
      cases h
      obtain ⟨v1, c1, e1, h1, hs1⟩ := rel2_cons hs
      exact ⟨v1, c1, e1, by rw [catA_ok h1]; exact Nat.eq_of_beq_eq_true hc, hs1, rfl⟩
  · cases h
theorem g1_ok {i : Instr} {nL N : Nat} {lv' : AL} (hs : rel2 (vrel ρ) cst st) (hl : lvR ρ clv lv) (hok : lvOk N clv) (h : g1 i nL N st lv = some (rest, lv')) : ∃ cr clv', stepB i nL cst clv = some (cr, clv') ∧ rel2 (vrel ρ) cr rest ∧ lvR ρ clv' lv' ∧ lvOk N clv' := by
  have no : ∀ {P : Prop}, (none : Option (List AV × AL)) = some (rest, lv') → P := fun h => by cases h
  cases i with
  | istore k => exact s1_ok hs hl hok h
  | istore_n k => exact s1_ok hs hl hok h
  | lstore k => exact s2_ok hs hl hok h
  | lstore_n k => exact s2_ok hs hl hok h
  | astore k => exact s3_ok hs hl hok h
  | astore_n k => exact s3_ok hs hl hok h
  | pop =>
    obtain ⟨v, cr, rfl, hc, h1, rfl⟩ := s4_ok hs h
    exact ⟨cr, clv, by simp only [stepB, if_pos hc], h1, hl, hok⟩
  | pop2 =>
    obtain ⟨v, cr, rfl, hc, h1, rfl⟩ := s4_ok hs h
    exact ⟨cr, clv, by simp only [stepB, if_pos hc], h1, hl, hok⟩
  | _ => exact no h
end STEP
