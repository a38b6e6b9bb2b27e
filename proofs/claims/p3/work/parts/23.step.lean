/-! ===== what an instruction does to abstract values: stack and locals ===== -/
abbrev RV : Type := AV ⊕ (Bool × OR)
noncomputable def rvOk (ρ : Nat → Int) (v : Value) (r : RV) : Prop := match r with
  | .inl a => vrel ρ v a
  | .inr (false, o) => ∃ x : Int32, v = .int x ∧ orOk ρ x.toInt o
  | .inr (true, o) => ∃ x : Int64, v = .long x ∧ orOk ρ x.toInt o
abbrev SV : Type := List AV × RV
noncomputable def kI (lo hi n : Int) (st : List AV) : Option SV := bif leI lo n then (bif leI n hi then some (st, .inl (avI (kL n))) else none) else none
noncomputable def b2_a0 :=
  fun (r_545 : List AV) (f : Ln → Ln → OR) (x_549 : Ln) (y_543 : Ln) => ((some (r_545, (.inr (false, (f x_549 y_543))))) : Option SV)
noncomputable def b2_a1 :=
  fun (r_545 : List AV) (f : Ln → Ln → OR) (x_549 : Ln) (y_543 : Ln) (x_548 : Bool) => ((Bool.rec (motive := fun _ => Option SV) (b2_a0 r_545 f x_549 y_543) none x_548) : Option SV)
noncomputable def b2 (f : Ln → Ln → OR) (st : List AV) : Option SV :=
  (List.rec (motive := fun _ => Option SV) none (fun x_538 x_539 _ => (Sum.rec (motive := fun _ => Option SV) (fun x_540 => (Prod.rec (motive := fun _ => Option SV) (fun x_542 y_543 => (Bool.rec (motive := fun _ => Option SV) (List.rec (motive := fun _ => Option SV) none (fun x_544 r_545 _ => (Sum.rec (motive := fun _ => Option SV) (fun x_546 => (Prod.rec (motive := fun _ => Option SV) (fun x_548 x_549 => (b2_a1 r_545 f x_549 y_543 x_548)) x_546)) (fun x_547 => none) x_544)) x_539) none x_542)) x_540)) (fun x_541 => none) x_538)) st)
theorem b2_def (f : Ln → Ln → OR) (st : List AV) : b2 f st = (match st with
  | .inl (false, y) :: .inl (false, x) :: r => some (r, .inr (false, f x y))
  | _ => none) := by
  show (List.rec (motive := fun _ => Option SV) none (fun x_526 x_527 _ => (Sum.rec (motive := fun _ => Option SV) (fun x_528 => (Prod.rec (motive := fun _ => Option SV) (fun x_530 y_531 => (Bool.rec (motive := fun _ => Option SV) (List.rec (motive := fun _ => Option SV) none (fun x_532 r_533 _ => (Sum.rec (motive := fun _ => Option SV) (fun x_534 => (Prod.rec (motive := fun _ => Option SV) (fun x_536 x_537 => (Bool.rec (motive := fun _ => Option SV) (some (r_533, (.inr (false, (f x_537 y_531))))) none x_536)) x_534)) (fun x_535 => none) x_532)) x_527) none x_530)) x_528)) (fun x_529 => none) x_526)) st) = _
  try simp only [iAddQ_eq, iMulQ_eq, iNegQ_eq, lenQ_eq, nthQ_eq, setQ_eq, appQ_eq, mapQ_eq, allQ_eq, anyQ_eq, dropQ_eq, takeQ_eq, revQ_eq, getDQ_eq, optLQ_eq, brecC]
  all_goals
    cases st with
    | nil =>
      try dsimp only [cond_false, cond_true]
      all_goals rfl
    | cons y_550 y_551 =>
      try dsimp only [cond_false, cond_true]
      all_goals
        cases y_550 with
        | inl y_552 =>
          try dsimp only [cond_false, cond_true]
          all_goals
            cases y_552 with
            | mk y_553 y_554 =>
              try dsimp only [cond_false, cond_true]
              all_goals
                cases y_553 with
                | false =>
                  try dsimp only [cond_false, cond_true]
                  all_goals
                    cases y_551 with
                    | nil =>
                      try dsimp only [cond_false, cond_true]
                      all_goals rfl
                    | cons y_555 y_556 =>
                      try dsimp only [cond_false, cond_true]
                      all_goals
                        cases y_555 with
                        | inl y_557 =>
                          try dsimp only [cond_false, cond_true]
                          all_goals
                            cases y_557 with
                            | mk y_558 y_559 =>
                              try dsimp only [cond_false, cond_true]
                              all_goals
                                cases y_558 with
                                | false =>
                                  try dsimp only [cond_false, cond_true]
                                  all_goals rfl
                                | true =>
                                  try dsimp only [cond_false, cond_true]
                                  all_goals rfl
                        | inr y_560 =>
                          try dsimp only [cond_false, cond_true]
                          all_goals rfl
                | true =>
                  try dsimp only [cond_false, cond_true]
                  all_goals rfl
        | inr y_561 =>
          try dsimp only [cond_false, cond_true]
          all_goals rfl
noncomputable def b2o_a0 :=
  fun (r_582 : List AV) o_587 => ((some (r_582, (.inr (false, o_587)))) : Option SV)
noncomputable def b2o (f : Ln → Ln → Option OR) (st : List AV) : Option SV :=
  (List.rec (motive := fun _ => Option SV) none (fun x_575 x_576 _ => (Sum.rec (motive := fun _ => Option SV) (fun x_577 => (Prod.rec (motive := fun _ => Option SV) (fun x_579 y_580 => (Bool.rec (motive := fun _ => Option SV) (List.rec (motive := fun _ => Option SV) none (fun x_581 r_582 _ => (Sum.rec (motive := fun _ => Option SV) (fun x_583 => (Prod.rec (motive := fun _ => Option SV) (fun x_585 x_586 => (Bool.rec (motive := fun _ => Option SV) (Option.rec (motive := fun _ => Option SV) none (fun o_587 => (b2o_a0 r_582 o_587)) (f x_586 y_580)) none x_585)) x_583)) (fun x_584 => none) x_581)) x_576) none x_579)) x_577)) (fun x_578 => none) x_575)) st)
theorem b2o_def (f : Ln → Ln → Option OR) (st : List AV) : b2o f st = (match st with
  | .inl (false, y) :: .inl (false, x) :: r => (match f x y with
    | some o => some (r, .inr (false, o))
    | none => none)
  | _ => none) := by
  show (List.rec (motive := fun _ => Option SV) none (fun x_562 x_563 _ => (Sum.rec (motive := fun _ => Option SV) (fun x_564 => (Prod.rec (motive := fun _ => Option SV) (fun x_566 y_567 => (Bool.rec (motive := fun _ => Option SV) (List.rec (motive := fun _ => Option SV) none (fun x_568 r_569 _ => (Sum.rec (motive := fun _ => Option SV) (fun x_570 => (Prod.rec (motive := fun _ => Option SV) (fun x_572 x_573 => (Bool.rec (motive := fun _ => Option SV) (Option.rec (motive := fun _ => Option SV) none (fun o_574 => (some (r_569, (.inr (false, o_574))))) (f x_573 y_567)) none x_572)) x_570)) (fun x_571 => none) x_568)) x_563) none x_566)) x_564)) (fun x_565 => none) x_562)) st) = _
  try simp only [iAddQ_eq, iMulQ_eq, iNegQ_eq, lenQ_eq, nthQ_eq, setQ_eq, appQ_eq, mapQ_eq, allQ_eq, anyQ_eq, dropQ_eq, takeQ_eq, revQ_eq, getDQ_eq, optLQ_eq, brecC]
  all_goals
    cases st with
    | nil =>
      try dsimp only [cond_false, cond_true]
      all_goals rfl
    | cons y_588 y_589 =>
      try dsimp only [cond_false, cond_true]
      all_goals
        cases y_588 with
        | inl y_590 =>
          try dsimp only [cond_false, cond_true]
          all_goals
            cases y_590 with
            | mk y_591 y_592 =>
              try dsimp only [cond_false, cond_true]
              all_goals
                cases y_591 with
                | false =>
                  try dsimp only [cond_false, cond_true]
                  all_goals
                    cases y_589 with
                    | nil =>
                      try dsimp only [cond_false, cond_true]
                      all_goals rfl
                    | cons y_593 y_594 =>
                      try dsimp only [cond_false, cond_true]
                      all_goals
                        cases y_593 with
                        | inl y_595 =>
                          try dsimp only [cond_false, cond_true]
                          all_goals
                            cases y_595 with
                            | mk y_596 y_597 =>
                              try dsimp only [cond_false, cond_true]
                              all_goals
                                cases y_596 with
                                | false =>
                                  try dsimp only [cond_false, cond_true]
                                  all_goals
                                    cases hq_9 : (f y_597 y_592) with
                                    | none =>
                                      try dsimp only [cond_false, cond_true]
                                      all_goals rfl
                                    | some y_598 =>
                                      try dsimp only [cond_false, cond_true]
                                      all_goals rfl
                                | true =>
                                  try dsimp only [cond_false, cond_true]
                                  all_goals rfl
                        | inr y_599 =>
                          try dsimp only [cond_false, cond_true]
                          all_goals rfl
                | true =>
                  try dsimp only [cond_false, cond_true]
                  all_goals rfl
        | inr y_600 =>
          try dsimp only [cond_false, cond_true]
          all_goals rfl
noncomputable def l2_a0 :=
  fun (r_620 : List AV) (f : Ln → Ln → OR) (x_624 : Ln) (y_618 : Ln) => ((some (r_620, (.inr (true, (f x_624 y_618))))) : Option SV)
noncomputable def l2_a1 :=
  fun (r_620 : List AV) (f : Ln → Ln → OR) (x_624 : Ln) (y_618 : Ln) (x_623 : Bool) => ((Bool.rec (motive := fun _ => Option SV) none (l2_a0 r_620 f x_624 y_618) x_623) : Option SV)
noncomputable def l2 (f : Ln → Ln → OR) (st : List AV) : Option SV :=
  (List.rec (motive := fun _ => Option SV) none (fun x_613 x_614 _ => (Sum.rec (motive := fun _ => Option SV) (fun x_615 => (Prod.rec (motive := fun _ => Option SV) (fun x_617 y_618 => (Bool.rec (motive := fun _ => Option SV) none (List.rec (motive := fun _ => Option SV) none (fun x_619 r_620 _ => (Sum.rec (motive := fun _ => Option SV) (fun x_621 => (Prod.rec (motive := fun _ => Option SV) (fun x_623 x_624 => (l2_a1 r_620 f x_624 y_618 x_623)) x_621)) (fun x_622 => none) x_619)) x_614) x_617)) x_615)) (fun x_616 => none) x_613)) st)
theorem l2_def (f : Ln → Ln → OR) (st : List AV) : l2 f st = (match st with
  | .inl (true, y) :: .inl (true, x) :: r => some (r, .inr (true, f x y))
  | _ => none) := by
  show (List.rec (motive := fun _ => Option SV) none (fun x_601 x_602 _ => (Sum.rec (motive := fun _ => Option SV) (fun x_603 => (Prod.rec (motive := fun _ => Option SV) (fun x_605 y_606 => (Bool.rec (motive := fun _ => Option SV) none (List.rec (motive := fun _ => Option SV) none (fun x_607 r_608 _ => (Sum.rec (motive := fun _ => Option SV) (fun x_609 => (Prod.rec (motive := fun _ => Option SV) (fun x_611 x_612 => (Bool.rec (motive := fun _ => Option SV) none (some (r_608, (.inr (true, (f x_612 y_606))))) x_611)) x_609)) (fun x_610 => none) x_607)) x_602) x_605)) x_603)) (fun x_604 => none) x_601)) st) = _
  try simp only [iAddQ_eq, iMulQ_eq, iNegQ_eq, lenQ_eq, nthQ_eq, setQ_eq, appQ_eq, mapQ_eq, allQ_eq, anyQ_eq, dropQ_eq, takeQ_eq, revQ_eq, getDQ_eq, optLQ_eq, brecC]
  all_goals
    cases st with
    | nil =>
      try dsimp only [cond_false, cond_true]
      all_goals rfl
    | cons y_625 y_626 =>
      try dsimp only [cond_false, cond_true]
      all_goals
        cases y_625 with
        | inl y_627 =>
          try dsimp only [cond_false, cond_true]
          all_goals
            cases y_627 with
            | mk y_628 y_629 =>
              try dsimp only [cond_false, cond_true]
              all_goals
                cases y_628 with
                | false =>
                  try dsimp only [cond_false, cond_true]
                  all_goals rfl
                | true =>
                  try dsimp only [cond_false, cond_true]
                  all_goals
                    cases y_626 with
                    | nil =>
                      try dsimp only [cond_false, cond_true]
                      all_goals rfl
                    | cons y_630 y_631 =>
                      try dsimp only [cond_false, cond_true]
                      all_goals
                        cases y_630 with
                        | inl y_632 =>
                          try dsimp only [cond_false, cond_true]
                          all_goals
                            cases y_632 with
                            | mk y_633 y_634 =>
                              try dsimp only [cond_false, cond_true]
                              all_goals
                                cases y_633 with
                                | false =>
                                  try dsimp only [cond_false, cond_true]
                                  all_goals rfl
                                | true =>
                                  try dsimp only [cond_false, cond_true]
                                  all_goals rfl
                        | inr y_635 =>
                          try dsimp only [cond_false, cond_true]
                          all_goals rfl
        | inr y_636 =>
          try dsimp only [cond_false, cond_true]
          all_goals rfl
noncomputable def l2o_a0 :=
  fun (r_657 : List AV) o_662 => ((some (r_657, (.inr (true, o_662)))) : Option SV)
noncomputable def l2o (f : Ln → Ln → Option OR) (st : List AV) : Option SV :=
  (List.rec (motive := fun _ => Option SV) none (fun x_650 x_651 _ => (Sum.rec (motive := fun _ => Option SV) (fun x_652 => (Prod.rec (motive := fun _ => Option SV) (fun x_654 y_655 => (Bool.rec (motive := fun _ => Option SV) none (List.rec (motive := fun _ => Option SV) none (fun x_656 r_657 _ => (Sum.rec (motive := fun _ => Option SV) (fun x_658 => (Prod.rec (motive := fun _ => Option SV) (fun x_660 x_661 => (Bool.rec (motive := fun _ => Option SV) none (Option.rec (motive := fun _ => Option SV) none (fun o_662 => (l2o_a0 r_657 o_662)) (f x_661 y_655)) x_660)) x_658)) (fun x_659 => none) x_656)) x_651) x_654)) x_652)) (fun x_653 => none) x_650)) st)
theorem l2o_def (f : Ln → Ln → Option OR) (st : List AV) : l2o f st = (match st with
  | .inl (true, y) :: .inl (true, x) :: r => (match f x y with
    | some o => some (r, .inr (true, o))
    | none => none)
  | _ => none) := by
  show (List.rec (motive := fun _ => Option SV) none (fun x_637 x_638 _ => (Sum.rec (motive := fun _ => Option SV) (fun x_639 => (Prod.rec (motive := fun _ => Option SV) (fun x_641 y_642 => (Bool.rec (motive := fun _ => Option SV) none (List.rec (motive := fun _ => Option SV) none (fun x_643 r_644 _ => (Sum.rec (motive := fun _ => Option SV) (fun x_645 => (Prod.rec (motive := fun _ => Option SV) (fun x_647 x_648 => (Bool.rec (motive := fun _ => Option SV) none (Option.rec (motive := fun _ => Option SV) none (fun o_649 => (some (r_644, (.inr (true, o_649))))) (f x_648 y_642)) x_647)) x_645)) (fun x_646 => none) x_643)) x_638) x_641)) x_639)) (fun x_640 => none) x_637)) st) = _
  try simp only [iAddQ_eq, iMulQ_eq, iNegQ_eq, lenQ_eq, nthQ_eq, setQ_eq, appQ_eq, mapQ_eq, allQ_eq, anyQ_eq, dropQ_eq, takeQ_eq, revQ_eq, getDQ_eq, optLQ_eq, brecC]
  all_goals
    cases st with
    | nil =>
      try dsimp only [cond_false, cond_true]
      all_goals rfl
    | cons y_663 y_664 =>
      try dsimp only [cond_false, cond_true]
      all_goals
        cases y_663 with
        | inl y_665 =>
          try dsimp only [cond_false, cond_true]
          all_goals
            cases y_665 with
            | mk y_666 y_667 =>
              try dsimp only [cond_false, cond_true]
              all_goals
                cases y_666 with
                | false =>
                  try dsimp only [cond_false, cond_true]
                  all_goals rfl
                | true =>
                  try dsimp only [cond_false, cond_true]
                  all_goals
                    cases y_664 with
                    | nil =>
                      try dsimp only [cond_false, cond_true]
                      all_goals rfl
                    | cons y_668 y_669 =>
                      try dsimp only [cond_false, cond_true]
                      all_goals
                        cases y_668 with
                        | inl y_670 =>
                          try dsimp only [cond_false, cond_true]
                          all_goals
                            cases y_670 with
                            | mk y_671 y_672 =>
                              try dsimp only [cond_false, cond_true]
                              all_goals
                                cases y_671 with
                                | false =>
                                  try dsimp only [cond_false, cond_true]
                                  all_goals rfl
                                | true =>
                                  try dsimp only [cond_false, cond_true]
                                  all_goals
                                    cases hq_9 : (f y_672 y_667) with
                                    | none =>
                                      try dsimp only [cond_false, cond_true]
                                      all_goals rfl
                                    | some y_673 =>
                                      try dsimp only [cond_false, cond_true]
                                      all_goals rfl
                        | inr y_674 =>
                          try dsimp only [cond_false, cond_true]
                          all_goals rfl
        | inr y_675 =>
          try dsimp only [cond_false, cond_true]
          all_goals rfl
noncomputable def u1_a0 :=
  fun (r_683 : List AV) (f : Ln → OR) (x_687 : Ln) => ((some (r_683, (.inr (false, (f x_687))))) : Option SV)
noncomputable def u1_a1 :=
  fun (r_683 : List AV) (f : Ln → OR) (x_687 : Ln) (x_686 : Bool) => ((Bool.rec (motive := fun _ => Option SV) (u1_a0 r_683 f x_687) none x_686) : Option SV)
noncomputable def u1 (f : Ln → OR) (st : List AV) : Option SV :=
  (List.rec (motive := fun _ => Option SV) none (fun x_682 r_683 _ => (Sum.rec (motive := fun _ => Option SV) (fun x_684 => (Prod.rec (motive := fun _ => Option SV) (fun x_686 x_687 => (u1_a1 r_683 f x_687 x_686)) x_684)) (fun x_685 => none) x_682)) st)
theorem u1_def (f : Ln → OR) (st : List AV) : u1 f st = (match st with
  | .inl (false, x) :: r => some (r, .inr (false, f x))
  | _ => none) := by
  show (List.rec (motive := fun _ => Option SV) none (fun x_676 r_677 _ => (Sum.rec (motive := fun _ => Option SV) (fun x_678 => (Prod.rec (motive := fun _ => Option SV) (fun x_680 x_681 => (Bool.rec (motive := fun _ => Option SV) (some (r_677, (.inr (false, (f x_681))))) none x_680)) x_678)) (fun x_679 => none) x_676)) st) = _
  try simp only [iAddQ_eq, iMulQ_eq, iNegQ_eq, lenQ_eq, nthQ_eq, setQ_eq, appQ_eq, mapQ_eq, allQ_eq, anyQ_eq, dropQ_eq, takeQ_eq, revQ_eq, getDQ_eq, optLQ_eq, brecC]
  all_goals
    cases st with
    | nil =>
      try dsimp only [cond_false, cond_true]
      all_goals rfl
    | cons y_688 y_689 =>
      try dsimp only [cond_false, cond_true]
      all_goals
        cases y_688 with
        | inl y_690 =>
          try dsimp only [cond_false, cond_true]
          all_goals
            cases y_690 with
            | mk y_691 y_692 =>
              try dsimp only [cond_false, cond_true]
              all_goals
                cases y_691 with
                | false =>
                  try dsimp only [cond_false, cond_true]
                  all_goals rfl
                | true =>
                  try dsimp only [cond_false, cond_true]
                  all_goals rfl
        | inr y_693 =>
          try dsimp only [cond_false, cond_true]
          all_goals rfl
noncomputable def lnB_a0 :=
  fun (b : Bool) => ((Bool.rec (motive := fun _ => Bool) true false b) : Bool)
noncomputable def lnB_a1 :=
  fun (b : Bool) => ((Bool.rec (motive := fun _ => Bool) false true b) : Bool)
noncomputable def lnB (a b : Bool) : Bool :=
  (Bool.rec (motive := fun _ => Bool) (lnB_a0 b) (lnB_a1 b) a)
theorem lnB_def (a b : Bool) : lnB a b = (match a, b with
  | true, true => true
  | false, false => true
  | _, _ => false) := by
  show (Bool.rec (motive := fun _ => Bool) (Bool.rec (motive := fun _ => Bool) true false b) (Bool.rec (motive := fun _ => Bool) false true b) a) = _
  try simp only [iAddQ_eq, iMulQ_eq, iNegQ_eq, lenQ_eq, nthQ_eq, setQ_eq, appQ_eq, mapQ_eq, allQ_eq, anyQ_eq, dropQ_eq, takeQ_eq, revQ_eq, getDQ_eq, optLQ_eq, brecC]
  all_goals
    cases a with
    | false =>
      try dsimp only [cond_false, cond_true]
      all_goals
        cases b with
        | false =>
          try dsimp only [cond_false, cond_true]
          all_goals rfl
        | true =>
          try dsimp only [cond_false, cond_true]
          all_goals rfl
    | true =>
      try dsimp only [cond_false, cond_true]
      all_goals
        cases b with
        | false =>
          try dsimp only [cond_false, cond_true]
          all_goals rfl
        | true =>
          try dsimp only [cond_false, cond_true]
          all_goals rfl
noncomputable def ldN_a0 :=
  fun (st : List AV) (b_702 : Bool) (e_703 : Ln) => ((some (st, (.inl (.inl (b_702, e_703))))) : Option SV)
noncomputable def ldN_a1 :=
  fun (st : List AV) (b_702 : Bool) (e_703 : Ln) (lg : Bool) => ((Bool.rec (motive := fun _ => Option SV) none (ldN_a0 st b_702 e_703) (lnB b_702 lg)) : Option SV)
noncomputable def ldN (lg : Bool) (lv : AL) (k : Nat) (st : List AV) : Option SV :=
  (Option.rec (motive := fun _ => Option SV) none (fun x_699 => (Sum.rec (motive := fun _ => Option SV) (fun x_700 => (Prod.rec (motive := fun _ => Option SV) (fun b_702 e_703 => (ldN_a1 st b_702 e_703 lg)) x_700)) (fun x_701 => none) x_699)) (alGet k lv))
theorem ldN_def (lg : Bool) (lv : AL) (k : Nat) (st : List AV) : ldN lg lv k st = (match alGet k lv with
  | some (.inl (b, e)) => bif lnB b lg then some (st, .inl (.inl (b, e))) else none
  | _ => none) := by
  show (Option.rec (motive := fun _ => Option SV) none (fun x_694 => (Sum.rec (motive := fun _ => Option SV) (fun x_695 => (Prod.rec (motive := fun _ => Option SV) (fun b_697 e_698 => (Bool.rec (motive := fun _ => Option SV) none (some (st, (.inl (.inl (b_697, e_698))))) (lnB b_697 lg))) x_695)) (fun x_696 => none) x_694)) (alGet k lv)) = _
  try simp only [iAddQ_eq, iMulQ_eq, iNegQ_eq, lenQ_eq, nthQ_eq, setQ_eq, appQ_eq, mapQ_eq, allQ_eq, anyQ_eq, dropQ_eq, takeQ_eq, revQ_eq, getDQ_eq, optLQ_eq, brecC]
  all_goals
    cases hq_1 : (alGet k lv) with
    | none =>
      try dsimp only [cond_false, cond_true]
      all_goals rfl
    | some y_704 =>
      try dsimp only [cond_false, cond_true]
      all_goals
        cases y_704 with
        | inl y_705 =>
          try dsimp only [cond_false, cond_true]
          all_goals
            cases y_705 with
            | mk y_706 y_707 =>
              try dsimp only [cond_false, cond_true]
              all_goals
                cases hq_4 : (lnB y_706 lg) with
                | false =>
                  try dsimp only [cond_false, cond_true]
                  all_goals rfl
                | true =>
                  try dsimp only [cond_false, cond_true]
                  all_goals rfl
        | inr y_708 =>
          try dsimp only [cond_false, cond_true]
          all_goals rfl
noncomputable def ldR_a0 :=
  fun (st : List AV) (i_720 : Nat) => ((some (st, (.inl (.inr (.inl (some i_720)))))) : Option SV)
noncomputable def ldR (lv : AL) (k : Nat) (st : List AV) : Option SV :=
  (Option.rec (motive := fun _ => Option SV) none (fun x_715 => (Sum.rec (motive := fun _ => Option SV) (fun x_716 => none) (fun x_717 => (Sum.rec (motive := fun _ => Option SV) (fun x_718 => (Option.rec (motive := fun _ => Option SV) none (fun i_720 => (ldR_a0 st i_720)) x_718)) (fun x_719 => none) x_717)) x_715)) (alGet k lv))
theorem ldR_def (lv : AL) (k : Nat) (st : List AV) : ldR lv k st = (match alGet k lv with
  | some (.inr (.inl (some i))) => some (st, .inl (.inr (.inl (some i))))
  | _ => none) := by
  show (Option.rec (motive := fun _ => Option SV) none (fun x_709 => (Sum.rec (motive := fun _ => Option SV) (fun x_710 => none) (fun x_711 => (Sum.rec (motive := fun _ => Option SV) (fun x_712 => (Option.rec (motive := fun _ => Option SV) none (fun i_714 => (some (st, (.inl (.inr (.inl (some i_714))))))) x_712)) (fun x_713 => none) x_711)) x_709)) (alGet k lv)) = _
  all_goals
    cases hq_1 : (alGet k lv) with
    | none =>
      try dsimp only [cond_false, cond_true]
      all_goals rfl
    | some y_721 =>
      try dsimp only [cond_false, cond_true]
      all_goals
        cases y_721 with
        | inl y_722 =>
          try dsimp only [cond_false, cond_true]
          all_goals rfl
        | inr y_723 =>
          try dsimp only [cond_false, cond_true]
          all_goals
            cases y_723 with
            | inl y_724 =>
              try dsimp only [cond_false, cond_true]
              all_goals
                cases y_724 with
                | none =>
                  try dsimp only [cond_false, cond_true]
                  all_goals rfl
                | some y_725 =>
                  try dsimp only [cond_false, cond_true]
                  all_goals rfl
            | inr y_726 =>
              try dsimp only [cond_false, cond_true]
              all_goals rfl
noncomputable def g0 (i : Instr) (a : Nat) (tab : Tb) (fs : List Ln) (lv : AL) (st : List AV) : Option SV := match i with
  | .iconst n => kI lo32 hi32 n st
  | .bipush n => kI (.negSucc 127) (.ofNat 127) n st
  | .sipush n => kI (.negSucc 32767) (.ofNat 32767) n st
  | .lconst n => some (st, .inl (avJ (kL (Int.ofNat (n : Nat)))))
  | .ldc _ => some (st, .inl (avI (kL (cI a).toInt)))
  | .ldc_w _ => some (st, .inl (avI (kL (cI a).toInt)))
  | .ldc2_w _ => some (st, .inl (avJ (kL (cL a).toInt)))
  | .iload k => ldN false lv k st
  | .iload_n k => ldN false lv (k : Nat) st
  | .lload k => ldN true lv k st
  | .lload_n k => ldN true lv (k : Nat) st
  | .aload k => ldR lv k st
  | .aload_n k => ldR lv (k : Nat) st
  | .iadd => b2 (aAdd tab) st
  | .isub => b2 (aSub tab) st
  | .imul => b2 (aMul tab) st
  | .iand => b2 (aAnd tab) st
  | .ior => b2 (aOr tab) st
  | .ixor => b2 (aXor tab) st
  | .ishl => b2 (aShl tab) st
  | .ishr => b2 (aShr tab) st
  | .iushr => b2 (aUshr tab) st
  | .idiv => b2o (aDiv tab fs) st
  | .irem => b2o (aRem tab fs) st
  | .ineg => u1 (aNeg tab) st
  | .i2c => u1 (aI2c tab) st
  | .ladd => l2 (lAdd tab) st
  | .lsub => l2 (lSub tab) st
  | .lmul => l2 (lMul tab) st
  | .ldiv => l2o (lDiv tab fs) st
  | .lneg => match st with
    | .inl (true, x) :: r => some (r, .inr (true, lNeg tab x))
    | _ => none
  | .i2l => match st with
    | .inl (false, x) :: r => some (r, .inl (.inl (true, x)))
    | _ => none
  | .l2i => match st with
    | .inl (true, x) :: r => some (r, .inr (false, aL2i tab x))
    | _ => none
  | .lcmp => match st with
    | .inl (true, y) :: .inl (true, x) :: r => some (r, .inl (.inr (.inr (x, y))))
    | _ => none
  | .dup => match st with
    | v :: r => bif Nat.beq (catA v) 1 then some (v :: r, .inl v) else none
    | _ => none
  | .dup2 => match st with
    | v :: w :: r => bif Nat.beq (catA v) 1 then (bif Nat.beq (catA w) 1 then some (w :: v :: w :: r, .inl v) else none) else none
    | _ => none
  | _ => none
section STEP
variable {ρ : Nat → Int} {tab : Tb} {fs : List Ln} {cst : List Value} {st rest : List AV} {clv : LV} {lv : AL} {r : RV}
theorem vI_inv {v : Value} {e : Ln} (h : vrel ρ v (.inl (false, e))) : ∃ x : Int32, v = .int x ∧ x.toInt = ev ρ e := h
theorem vJ_inv {v : Value} {e : Ln} (h : vrel ρ v (.inl (true, e))) : ∃ x : Int64, v = .long x ∧ x.toInt = ev ρ e := h
theorem lnB_eq {a b : Bool} (h : lnB a b = true) : a = b := by
  revert h
  cases a <;> cases b <;> intro h <;> first | rfl | cases h
theorem kI_ok {lo hi n : Int} (h : kI lo hi n st = some (rest, r)) : lo ≤ n ∧ n ≤ hi ∧ rest = st ∧ r = .inl (avI (kL n)) := by
  unfold kI at h
  cases h1 : leI lo n with
  | false => rw [h1] at h; cases h
  | true =>
    rw [h1] at h
    cases h2 : leI n hi with
    | false => rw [h2] at h; cases h
    | true => rw [h2] at h; cases h; exact ⟨leI_le h1, leI_le h2, rfl, rfl⟩
theorem b2_ok {F : Int32 → Int32 → Int32} {f : Ln → Ln → OR} (hs : rel2 (vrel ρ) cst st) (hf : ∀ {a b : Ln} {x y : Int32}, x.toInt = ev ρ a → y.toInt = ev ρ b → orOk ρ (F x y).toInt (f a b)) (h : b2 f st = some (rest, r)) : ∃ v cr, bi F cst = some (v :: cr) ∧ rel2 (vrel ρ) cr rest ∧ rvOk ρ v r := by
  rw [b2_def] at h
  split at h
  · rename_i y x r'
    cases h
    obtain ⟨v1, c1, e1, h1, hs1⟩ := rel2_cons hs
    obtain ⟨v2, c2, e2, h2, hs2⟩ := rel2_cons hs1
    obtain ⟨y', e3, h3⟩ := vI_inv h1
    obtain ⟨x', e4, h4⟩ := vI_inv h2
    subst e1; subst e2; subst e3; subst e4
    exact ⟨_, _, rfl, hs2, _, rfl, hf h4 h3⟩
  · cases h
theorem b2o_ok {F : Int32 → Int32 → Int32} {f : Ln → Ln → Option OR} (hs : rel2 (vrel ρ) cst st) (hf : ∀ {a b : Ln} {x y : Int32} {o : OR}, x.toInt = ev ρ a → y.toInt = ev ρ b → f a b = some o → y ≠ 0 ∧ orOk ρ (F x y).toInt o) (h : b2o f st = some (rest, r)) : ∃ v cr, biN F cst = some (v :: cr) ∧ rel2 (vrel ρ) cr rest ∧ rvOk ρ v r := by
  rw [b2o_def] at h
  split at h
  · rename_i y x r'
    cases ho : f x y with
    | none => rw [ho] at h; cases h
    | some o =>
      rw [ho] at h
      cases h
      obtain ⟨v1, c1, e1, h1, hs1⟩ := rel2_cons hs
      obtain ⟨v2, c2, e2, h2, hs2⟩ := rel2_cons hs1
      obtain ⟨y', e3, h3⟩ := vI_inv h1
      obtain ⟨x', e4, h4⟩ := vI_inv h2
      subst e1; subst e2; subst e3; subst e4
      obtain ⟨n0, hor⟩ := hf h4 h3 ho
      refine ⟨_, _, ?_, hs2, _, rfl, hor⟩
      show (if y' = 0 then none else some (.int (F x' y') :: c2)) = _
      rw [if_neg n0]
  · cases h
theorem l2_ok {F : Int64 → Int64 → Int64} {f : Ln → Ln → OR} (hs : rel2 (vrel ρ) cst st) (hf : ∀ {a b : Ln} {x y : Int64}, x.toInt = ev ρ a → y.toInt = ev ρ b → orOk ρ (F x y).toInt (f a b)) (h : l2 f st = some (rest, r)) : ∃ v cr, bl F cst = some (v :: cr) ∧ rel2 (vrel ρ) cr rest ∧ rvOk ρ v r := by
  rw [l2_def] at h
  split at h
  · rename_i y x r'
    cases h
    obtain ⟨v1, c1, e1, h1, hs1⟩ := rel2_cons hs
    obtain ⟨v2, c2, e2, h2, hs2⟩ := rel2_cons hs1
    obtain ⟨y', e3, h3⟩ := vJ_inv h1
    obtain ⟨x', e4, h4⟩ := vJ_inv h2
    subst e1; subst e2; subst e3; subst e4
    exact ⟨_, _, rfl, hs2, _, rfl, hf h4 h3⟩
  · cases h
theorem l2o_ok {F : Int64 → Int64 → Int64} {f : Ln → Ln → Option OR} (hs : rel2 (vrel ρ) cst st) (hf : ∀ {a b : Ln} {x y : Int64} {o : OR}, x.toInt = ev ρ a → y.toInt = ev ρ b → f a b = some o → y ≠ 0 ∧ orOk ρ (F x y).toInt o) (h : l2o f st = some (rest, r)) : ∃ v cr, blN F cst = some (v :: cr) ∧ rel2 (vrel ρ) cr rest ∧ rvOk ρ v r := by
  rw [l2o_def] at h
  split at h
  · rename_i y x r'
    cases ho : f x y with
    | none => rw [ho] at h; cases h
    | some o =>
      rw [ho] at h
      cases h
      obtain ⟨v1, c1, e1, h1, hs1⟩ := rel2_cons hs
      obtain ⟨v2, c2, e2, h2, hs2⟩ := rel2_cons hs1
      obtain ⟨y', e3, h3⟩ := vJ_inv h1
      obtain ⟨x', e4, h4⟩ := vJ_inv h2
      subst e1; subst e2; subst e3; subst e4
      obtain ⟨n0, hor⟩ := hf h4 h3 ho
      refine ⟨_, _, ?_, hs2, _, rfl, hor⟩
      show (if y' = 0 then none else some (.long (F x' y') :: c2)) = _
      rw [if_neg n0]
  · cases h
theorem u1_ok {F : Int32 → Int32} {f : Ln → OR} (hs : rel2 (vrel ρ) cst st) (hf : ∀ {a : Ln} {x : Int32}, x.toInt = ev ρ a → orOk ρ (F x).toInt (f a)) (h : u1 f st = some (rest, r)) : ∃ v cr, ui F cst = some (v :: cr) ∧ rel2 (vrel ρ) cr rest ∧ rvOk ρ v r := by
  rw [u1_def] at h
  split at h
  · rename_i x r'
    cases h
    obtain ⟨v1, c1, e1, h1, hs1⟩ := rel2_cons hs
    obtain ⟨x', e4, h4⟩ := vI_inv h1
    subst e1; subst e4
    exact ⟨_, _, rfl, hs1, _, rfl, hf h4⟩
  · cases h
theorem ldI_ok {k : Nat} (hs : rel2 (vrel ρ) cst st) (hl : lvR ρ clv lv) (h : ldN false lv k st = some (rest, r)) : ∃ v cr, ldI clv k cst = some (v :: cr) ∧ rel2 (vrel ρ) cr rest ∧ rvOk ρ v r := by
  rw [ldN_def] at h
  split at h
  · rename_i b e hg
    cases hb : lnB b false with
    | false => rw [hb] at h; cases h
    | true =>
      rw [hb] at h
      have := lnB_eq hb
      subst this
      cases h
      obtain ⟨v, hv, hr⟩ := lvR_get hl hg
      obtain ⟨x, e1, h1⟩ := vI_inv hr
      subst e1
      refine ⟨.int x, cst, ?_, hs, hr⟩
      unfold ldI
      rw [hv]
  · cases h
theorem ldL_ok {k : Nat} (hs : rel2 (vrel ρ) cst st) (hl : lvR ρ clv lv) (h : ldN true lv k st = some (rest, r)) : ∃ v cr, ldL clv k cst = some (v :: cr) ∧ rel2 (vrel ρ) cr rest ∧ rvOk ρ v r := by
  rw [ldN_def] at h
  split at h
  · rename_i b e hg
    cases hb : lnB b true with
    | false => rw [hb] at h; cases h
    | true =>
      rw [hb] at h
      have := lnB_eq hb
      subst this
      cases h
      obtain ⟨v, hv, hr⟩ := lvR_get hl hg
      obtain ⟨x, e1, h1⟩ := vJ_inv hr
      subst e1
      refine ⟨.long x, cst, ?_, hs, hr⟩
      unfold ldL
      rw [hv]
  · cases h
theorem ldA_ok {k : Nat} (hs : rel2 (vrel ρ) cst st) (hl : lvR ρ clv lv) (h : ldR lv k st = some (rest, r)) : ∃ v cr, ldA clv k cst = some (v :: cr) ∧ rel2 (vrel ρ) cr rest ∧ rvOk ρ v r := by
  rw [ldR_def] at h
  split at h
  · rename_i i hg
    cases h
    obtain ⟨v, hv, hr⟩ := lvR_get hl hg
    have e1 : v = .ref i := hr
    subst e1
    refine ⟨.ref i, cst, ?_, hs, hr⟩
    unfold ldA
    rw [hv]
  · cases h
theorem k32 {n : Int} (h1 : lo32 ≤ n) (h2 : n ≤ hi32) : (Int32.ofInt n).toInt = n := by
  have e1 : lo32 = -2147483648 := rfl
  have e2 : hi32 = 2147483647 := rfl
  exact Int32.toInt_ofInt_of_le (by omega) (by omega)
theorem lcst : ∀ n : Fin 2, (Int64.ofNat (n : Nat)).toInt = Int.ofNat (n : Nat) := by decide
set_option maxHeartbeats 4000000 in
theorem g0_ok {i : Instr} {a : Nat} (ht : tOk ρ tab) (hf : fOk ρ fs) (hs : rel2 (vrel ρ) cst st) (hl : lvR ρ clv lv) (h : g0 i a tab fs lv st = some (rest, r)) : ∃ v cr, stepA i a cst clv = some (v :: cr) ∧ rel2 (vrel ρ) cr rest ∧ rvOk ρ v r := by
  have no : ∀ {P : Prop}, (none : Option SV) = some (rest, r) → P := fun h => by cases h
  cases i with
  | iconst n =>
    obtain ⟨h1, h2, rfl, rfl⟩ := kI_ok h
    exact ⟨_, _, rfl, hs, _, rfl, (k32 h1 h2).trans (ev_k ρ n).symm⟩
  | bipush n =>
    obtain ⟨h1, h2, rfl, rfl⟩ := kI_ok h
    refine ⟨_, _, rfl, hs, _, rfl, ?_⟩
    rw [ev_k, Int8.toInt_toInt32]
    have e1 : Int.negSucc 127 = -128 := rfl
    have e2 : Int.ofNat 127 = 127 := rfl
    exact Int8.toInt_ofInt_of_le (by omega) (by omega)
  | sipush n =>
    obtain ⟨h1, h2, rfl, rfl⟩ := kI_ok h
    refine ⟨_, _, rfl, hs, _, rfl, ?_⟩
    rw [ev_k, Int16.toInt_toInt32]
    have e1 : Int.negSucc 32767 = -32768 := rfl
    have e2 : Int.ofNat 32767 = 32767 := rfl
    exact Int16.toInt_ofInt_of_le (by omega) (by omega)
  | lconst n =>
    cases h
    exact ⟨_, _, rfl, hs, _, rfl, (lcst n).trans (ev_k ρ _).symm⟩
  | ldc _ =>
    cases h
    exact ⟨_, _, rfl, hs, _, rfl, (ev_k ρ _).symm⟩
  | ldc_w _ =>
    cases h
    exact ⟨_, _, rfl, hs, _, rfl, (ev_k ρ _).symm⟩
  | ldc2_w _ =>
    cases h
    exact ⟨_, _, rfl, hs, _, rfl, (ev_k ρ _).symm⟩
  | iload k => exact ldI_ok hs hl h
  | iload_n k => exact ldI_ok hs hl h
  | lload k => exact ldL_ok hs hl h
  | lload_n k => exact ldL_ok hs hl h
  | aload k => exact ldA_ok hs hl h
  | aload_n k => exact ldA_ok hs hl h
  | iadd => exact b2_ok hs (aAdd_ok ht) h
  | isub => exact b2_ok hs (aSub_ok ht) h
  | imul => exact b2_ok hs (aMul_ok ht) h
  | iand => exact b2_ok hs (aAnd_ok ht) h
  | ior => exact b2_ok hs (aOr_ok ht) h
  | ixor => exact b2_ok hs (aXor_ok ht) h
  | ishl => exact b2_ok hs (aShl_ok ht) h
  | ishr => exact b2_ok hs (aShr_ok ht) h
  | iushr => exact b2_ok hs (aUshr_ok ht) h
  | idiv => exact b2o_ok hs (fun ha hb hr => aDiv_ok ht hf ha hb hr) h
  | irem => exact b2o_ok hs (fun ha hb hr => aRem_ok ht hf ha hb hr) h
  | ineg => exact u1_ok hs (aNeg_ok ht) h
  | i2c => exact u1_ok hs (aI2c_ok ht) h
  | ladd => exact l2_ok hs (lAdd_ok ht) h
  | lsub => exact l2_ok hs (lSub_ok ht) h
  | lmul => exact l2_ok hs (lMul_ok ht) h
  | ldiv => exact l2o_ok hs (fun ha hb hr => lDiv_ok ht hf ha hb hr) h
  | lneg =>
    simp only [g0] at h
    split at h
    · cases h
      obtain ⟨v1, c1, e1, h1, hs1⟩ := rel2_cons hs
      obtain ⟨x', e4, h4⟩ := vJ_inv h1
      subst e1; subst e4
      exact ⟨_, _, rfl, hs1, _, rfl, lNeg_ok ht h4⟩
    · cases h
  | i2l =>
    simp only [g0] at h
    split at h
    · cases h
      obtain ⟨v1, c1, e1, h1, hs1⟩ := rel2_cons hs
      obtain ⟨x', e4, h4⟩ := vI_inv h1
      subst e1; subst e4
      exact ⟨_, _, rfl, hs1, _, rfl, (i2l_toInt x').trans h4⟩
    · cases h
  | l2i =>
    simp only [g0] at h
    split at h
    · cases h
      obtain ⟨v1, c1, e1, h1, hs1⟩ := rel2_cons hs
      obtain ⟨x', e4, h4⟩ := vJ_inv h1
      subst e1; subst e4
      exact ⟨_, _, rfl, hs1, _, rfl, aL2i_ok ht h4⟩
    · cases h
  | lcmp =>
    simp only [g0] at h
    split at h
    · cases h
      obtain ⟨v1, c1, e1, h1, hs1⟩ := rel2_cons hs
      obtain ⟨v2, c2, e2, h2, hs2⟩ := rel2_cons hs1
      obtain ⟨y', e3, h3⟩ := vJ_inv h1
      obtain ⟨x', e4, h4⟩ := vJ_inv h2
      subst e1; subst e2; subst e3; subst e4
      refine ⟨_, _, rfl, hs2, ?_⟩
      show Value.int (lg_cmp x' y') = .int (cmpZ _ _)
      rw [← h3, ← h4]
      unfold lg_cmp cmpZ
      simp only [gt_iff_lt, Int64.lt_iff_toInt_lt, ← Int64.toInt_inj]
    · cases h
  | dup =>
    simp only [g0] at h
    split at h
    · rename_i v r'
      cases hc : Nat.beq (catA v) 1 with
      | false => rw [hc] at h; cases h
      | true =>
        rw [hc] at h
        cases h
        obtain ⟨v1, c1, e1, h1, hs1⟩ := rel2_cons hs
        subst e1
        refine ⟨v1, v1 :: c1, ?_, ⟨h1, hs1⟩, h1⟩
        show (if v1.category = 1 then some (v1 :: v1 :: c1) else none) = _
        rw [if_pos (by rw [catA_ok h1]; exact Nat.eq_of_beq_eq_true hc)]
    · cases h
  | dup2 =>
    simp only [g0] at h
    split at h
    · rename_i v w r'
      cases hc : Nat.beq (catA v) 1 with
      | false => rw [hc] at h; cases h
      | true =>
        rw [hc] at h
        cases hc2 : Nat.beq (catA w) 1 with
        | false => rw [hc2] at h; cases h
        | true =>
          rw [hc2] at h
          cases h
          obtain ⟨v1, c1, e1, h1, hs1⟩ := rel2_cons hs
          obtain ⟨v2, c2, e2, h2, hs2⟩ := rel2_cons hs1
          subst e1; subst e2
          refine ⟨v1, v2 :: v1 :: v2 :: c2, ?_, ⟨h2, h1, h2, hs2⟩, h1⟩
          show (if v1.category = 1 ∧ v2.category = 1 then some (v1 :: v2 :: v1 :: v2 :: c2) else none) = _
          rw [if_pos ⟨by rw [catA_ok h1]; exact Nat.eq_of_beq_eq_true hc, by rw [catA_ok h2]; exact Nat.eq_of_beq_eq_true hc2⟩]
    · cases h
  | _ => exact no h
-- into locals
noncomputable def gs1_a0 :=
  fun (r_734 : List AV) (k : Nat) (e_738 : Ln) (lv : AL) => ((some (r_734, ((k, (.inl (false, e_738))) :: (alDel false k lv)))) : Option (List AV × AL))
noncomputable def gs1_a1 :=
  fun (r_734 : List AV) (k : Nat) (e_738 : Ln) (lv : AL) (nL : Nat) => ((Bool.rec (motive := fun _ => Option (List AV × AL)) none (gs1_a0 r_734 k e_738 lv) (Nat.blt k nL)) : Option (List AV × AL))
noncomputable def gs1_a2 :=
  fun (r_734 : List AV) (k : Nat) (e_738 : Ln) (lv : AL) (nL : Nat) (x_737 : Bool) => ((Bool.rec (motive := fun _ => Option (List AV × AL)) (gs1_a1 r_734 k e_738 lv nL) none x_737) : Option (List AV × AL))
noncomputable def gs1 (nL k : Nat) (st : List AV) (lv : AL) : Option (List AV × AL) :=
  (List.rec (motive := fun _ => Option (List AV × AL)) none (fun x_733 r_734 _ => (Sum.rec (motive := fun _ => Option (List AV × AL)) (fun x_735 => (Prod.rec (motive := fun _ => Option (List AV × AL)) (fun x_737 e_738 => (gs1_a2 r_734 k e_738 lv nL x_737)) x_735)) (fun x_736 => none) x_733)) st)
theorem gs1_def (nL k : Nat) (st : List AV) (lv : AL) : gs1 nL k st lv = (match st with
  | .inl (false, e) :: r => bif Nat.blt k nL then some (r, (k, .inl (false, e)) :: alDel false k lv) else none
  | _ => none) := by
  show (List.rec (motive := fun _ => Option (List AV × AL)) none (fun x_727 r_728 _ => (Sum.rec (motive := fun _ => Option (List AV × AL)) (fun x_729 => (Prod.rec (motive := fun _ => Option (List AV × AL)) (fun x_731 e_732 => (Bool.rec (motive := fun _ => Option (List AV × AL)) (Bool.rec (motive := fun _ => Option (List AV × AL)) none (some (r_728, ((k, (.inl (false, e_732))) :: (alDel false k lv)))) (Nat.blt k nL)) none x_731)) x_729)) (fun x_730 => none) x_727)) st) = _
  try simp only [iAddQ_eq, iMulQ_eq, iNegQ_eq, lenQ_eq, nthQ_eq, setQ_eq, appQ_eq, mapQ_eq, allQ_eq, anyQ_eq, dropQ_eq, takeQ_eq, revQ_eq, getDQ_eq, optLQ_eq, brecC]
  all_goals
    cases st with
    | nil =>
      try dsimp only [cond_false, cond_true]
      all_goals rfl
    | cons y_739 y_740 =>
      try dsimp only [cond_false, cond_true]
      all_goals
        cases y_739 with
        | inl y_741 =>
          try dsimp only [cond_false, cond_true]
          all_goals
            cases y_741 with
            | mk y_742 y_743 =>
              try dsimp only [cond_false, cond_true]
              all_goals
                cases y_742 with
                | false =>
                  try dsimp only [cond_false, cond_true]
                  all_goals
                    cases hq_5 : (Nat.blt k nL) with
                    | false =>
                      try dsimp only [cond_false, cond_true]
                      all_goals rfl
                    | true =>
                      try dsimp only [cond_false, cond_true]
                      all_goals rfl
                | true =>
                  try dsimp only [cond_false, cond_true]
                  all_goals rfl
        | inr y_744 =>
          try dsimp only [cond_false, cond_true]
          all_goals rfl
noncomputable def gs2_a0 :=
  fun (r_752 : List AV) (k : Nat) (e_756 : Ln) (lv : AL) => ((some (r_752, ((k, (.inl (true, e_756))) :: (alDel true k lv)))) : Option (List AV × AL))
noncomputable def gs2_a1 :=
  fun (r_752 : List AV) (k : Nat) (e_756 : Ln) (lv : AL) (nL : Nat) => ((Bool.rec (motive := fun _ => Option (List AV × AL)) none (gs2_a0 r_752 k e_756 lv) (Nat.blt (Nat.succ k) nL)) : Option (List AV × AL))
noncomputable def gs2_a2 :=
  fun (r_752 : List AV) (k : Nat) (e_756 : Ln) (lv : AL) (nL : Nat) (x_755 : Bool) => ((Bool.rec (motive := fun _ => Option (List AV × AL)) none (gs2_a1 r_752 k e_756 lv nL) x_755) : Option (List AV × AL))
noncomputable def gs2 (nL k : Nat) (st : List AV) (lv : AL) : Option (List AV × AL) :=
  (List.rec (motive := fun _ => Option (List AV × AL)) none (fun x_751 r_752 _ => (Sum.rec (motive := fun _ => Option (List AV × AL)) (fun x_753 => (Prod.rec (motive := fun _ => Option (List AV × AL)) (fun x_755 e_756 => (gs2_a2 r_752 k e_756 lv nL x_755)) x_753)) (fun x_754 => none) x_751)) st)
theorem gs2_def (nL k : Nat) (st : List AV) (lv : AL) : gs2 nL k st lv = (match st with
  | .inl (true, e) :: r => bif Nat.blt (Nat.succ k) nL then some (r, (k, .inl (true, e)) :: alDel true k lv) else none
  | _ => none) := by
  show (List.rec (motive := fun _ => Option (List AV × AL)) none (fun x_745 r_746 _ => (Sum.rec (motive := fun _ => Option (List AV × AL)) (fun x_747 => (Prod.rec (motive := fun _ => Option (List AV × AL)) (fun x_749 e_750 => (Bool.rec (motive := fun _ => Option (List AV × AL)) none (Bool.rec (motive := fun _ => Option (List AV × AL)) none (some (r_746, ((k, (.inl (true, e_750))) :: (alDel true k lv)))) (Nat.blt (Nat.succ k) nL)) x_749)) x_747)) (fun x_748 => none) x_745)) st) = _
  try simp only [iAddQ_eq, iMulQ_eq, iNegQ_eq, lenQ_eq, nthQ_eq, setQ_eq, appQ_eq, mapQ_eq, allQ_eq, anyQ_eq, dropQ_eq, takeQ_eq, revQ_eq, getDQ_eq, optLQ_eq, brecC]
  all_goals
    cases st with
    | nil =>
      try dsimp only [cond_false, cond_true]
      all_goals rfl
    | cons y_757 y_758 =>
      try dsimp only [cond_false, cond_true]
      all_goals
        cases y_757 with
        | inl y_759 =>
          try dsimp only [cond_false, cond_true]
          all_goals
            cases y_759 with
            | mk y_760 y_761 =>
              try dsimp only [cond_false, cond_true]
              all_goals
                cases y_760 with
                | false =>
                  try dsimp only [cond_false, cond_true]
                  all_goals rfl
                | true =>
                  try dsimp only [cond_false, cond_true]
                  all_goals
                    cases hq_5 : (Nat.blt ((Nat.succ k)) nL) with
                    | false =>
                      try dsimp only [cond_false, cond_true]
                      all_goals rfl
                    | true =>
                      try dsimp only [cond_false, cond_true]
                      all_goals rfl
        | inr y_762 =>
          try dsimp only [cond_false, cond_true]
          all_goals rfl
noncomputable def gs3_a0 :=
  fun (r_771 : List AV) (k : Nat) (j_776 : Nat) (lv : AL) => ((some (r_771, ((k, (.inr (.inl (some j_776)))) :: (alDel false k lv)))) : Option (List AV × AL))
noncomputable def gs3_a1 :=
  fun (r_771 : List AV) (k : Nat) (j_776 : Nat) (lv : AL) (N : Nat) => ((Bool.rec (motive := fun _ => Option (List AV × AL)) none (gs3_a0 r_771 k j_776 lv) (okVA N (.inr (.inl (some j_776))))) : Option (List AV × AL))
noncomputable def gs3_a2 :=
  fun (r_771 : List AV) (k : Nat) (j_776 : Nat) (lv : AL) (N : Nat) (nL : Nat) => ((Bool.rec (motive := fun _ => Option (List AV × AL)) none (gs3_a1 r_771 k j_776 lv N) (Nat.blt k nL)) : Option (List AV × AL))
noncomputable def gs3 (nL N k : Nat) (st : List AV) (lv : AL) : Option (List AV × AL) :=
  (List.rec (motive := fun _ => Option (List AV × AL)) none (fun x_770 r_771 _ => (Sum.rec (motive := fun _ => Option (List AV × AL)) (fun x_772 => none) (fun x_773 => (Sum.rec (motive := fun _ => Option (List AV × AL)) (fun x_774 => (Option.rec (motive := fun _ => Option (List AV × AL)) none (fun j_776 => (gs3_a2 r_771 k j_776 lv N nL)) x_774)) (fun x_775 => none) x_773)) x_770)) st)
theorem gs3_def (nL N k : Nat) (st : List AV) (lv : AL) : gs3 nL N k st lv = (match st with
  | .inr (.inl (some j)) :: r => bif Nat.blt k nL then (bif okVA N (.inr (.inl (some j))) then some (r, (k, .inr (.inl (some j))) :: alDel false k lv) else none) else none
  | _ => none) := by
  show (List.rec (motive := fun _ => Option (List AV × AL)) none (fun x_763 r_764 _ => (Sum.rec (motive := fun _ => Option (List AV × AL)) (fun x_765 => none) (fun x_766 => (Sum.rec (motive := fun _ => Option (List AV × AL)) (fun x_767 => (Option.rec (motive := fun _ => Option (List AV × AL)) none (fun j_769 => (Bool.rec (motive := fun _ => Option (List AV × AL)) none (Bool.rec (motive := fun _ => Option (List AV × AL)) none (some (r_764, ((k, (.inr (.inl (some j_769)))) :: (alDel false k lv)))) (okVA N (.inr (.inl (some j_769))))) (Nat.blt k nL))) x_767)) (fun x_768 => none) x_766)) x_763)) st) = _
  try simp only [iAddQ_eq, iMulQ_eq, iNegQ_eq, lenQ_eq, nthQ_eq, setQ_eq, appQ_eq, mapQ_eq, allQ_eq, anyQ_eq, dropQ_eq, takeQ_eq, revQ_eq, getDQ_eq, optLQ_eq, brecC]
  all_goals
    cases st with
    | nil =>
      try dsimp only [cond_false, cond_true]
      all_goals rfl
    | cons y_777 y_778 =>
      try dsimp only [cond_false, cond_true]
      all_goals
        cases y_777 with
        | inl y_779 =>
          try dsimp only [cond_false, cond_true]
          all_goals rfl
        | inr y_780 =>
          try dsimp only [cond_false, cond_true]
          all_goals
            cases y_780 with
            | inl y_781 =>
              try dsimp only [cond_false, cond_true]
              all_goals
                cases y_781 with
                | none =>
                  try dsimp only [cond_false, cond_true]
                  all_goals rfl
                | some y_782 =>
                  try dsimp only [cond_false, cond_true]
                  all_goals
                    cases hq_5 : (Nat.blt k nL) with
                    | false =>
                      try dsimp only [cond_false, cond_true]
                      all_goals rfl
                    | true =>
                      try dsimp only [cond_false, cond_true]
                      all_goals
                        cases hq_6 : (okVA N ((.inr ((.inl ((some y_782))))))) with
                        | false =>
                          try dsimp only [cond_false, cond_true]
                          all_goals rfl
                        | true =>
                          try dsimp only [cond_false, cond_true]
                          all_goals rfl
            | inr y_783 =>
              try dsimp only [cond_false, cond_true]
              all_goals rfl
noncomputable def gs4_a0 :=
  fun (r_787 : List AV) (lv : AL) (v_786 : AV) (c : Nat) => ((Bool.rec (motive := fun _ => Option (List AV × AL)) none (some (r_787, lv)) (Nat.beq (catA v_786) c)) : Option (List AV × AL))
noncomputable def gs4 (c : Nat) (st : List AV) (lv : AL) : Option (List AV × AL) :=
  (List.rec (motive := fun _ => Option (List AV × AL)) none (fun v_786 r_787 _ => (gs4_a0 r_787 lv v_786 c)) st)
theorem gs4_def (c : Nat) (st : List AV) (lv : AL) : gs4 c st lv = (match st with
  | v :: r => bif Nat.beq (catA v) c then some (r, lv) else none
  | _ => none) := by
  show (List.rec (motive := fun _ => Option (List AV × AL)) none (fun v_784 r_785 _ => (Bool.rec (motive := fun _ => Option (List AV × AL)) none (some (r_785, lv)) (Nat.beq (catA v_784) c))) st) = _
  try simp only [iAddQ_eq, iMulQ_eq, iNegQ_eq, lenQ_eq, nthQ_eq, setQ_eq, appQ_eq, mapQ_eq, allQ_eq, anyQ_eq, dropQ_eq, takeQ_eq, revQ_eq, getDQ_eq, optLQ_eq, brecC]
  all_goals
    cases st with
    | nil =>
      try dsimp only [cond_false, cond_true]
      all_goals rfl
    | cons y_788 y_789 =>
      try dsimp only [cond_false, cond_true]
      all_goals
        cases hq_2 : (Nat.beq ((catA y_788)) c) with
        | false =>
          try dsimp only [cond_false, cond_true]
          all_goals rfl
        | true =>
          try dsimp only [cond_false, cond_true]
          all_goals rfl
noncomputable def g1 (i : Instr) (nL N : Nat) (st : List AV) (lv : AL) : Option (List AV × AL) := match i with
  | .istore k => gs1 nL k st lv
  | .istore_n k => gs1 nL (k : Nat) st lv
  | .lstore k => gs2 nL k st lv
  | .lstore_n k => gs2 nL (k : Nat) st lv
  | .astore k => gs3 nL N k st lv
  | .astore_n k => gs3 nL N (k : Nat) st lv
  | .pop => gs4 1 st lv
  | .pop2 => gs4 2 st lv
  | _ => none
theorem s1_ok {nL k N : Nat} {lv' : AL} (hs : rel2 (vrel ρ) cst st) (hl : lvR ρ clv lv) (hok : lvOk N clv) (h : gs1 nL k st lv = some (rest, lv')) : ∃ cr clv', stI nL clv k cst = some (cr, clv') ∧ rel2 (vrel ρ) cr rest ∧ lvR ρ clv' lv' ∧ lvOk N clv' := by
  rw [gs1_def] at h
  split at h
  · rename_i e r'
    cases hk : Nat.blt k nL with
    | false => rw [hk] at h; cases h
    | true =>
      rw [hk] at h
      cases h
      obtain ⟨v1, c1, e1, h1, hs1⟩ := rel2_cons hs
      obtain ⟨x', e4, h4⟩ := vI_inv h1
      subst e1; subst e4
      refine ⟨c1, lvSet1 clv k (.int x'), ?_, hs1, lvR_set1 hl h1, lvOk_set1 hok rfl⟩
      show (if k < nL then some (c1, lvSet1 clv k (.int x')) else none) = _
      rw [if_pos (blt_iff.mp hk)]
  · cases h
theorem s2_ok {nL k N : Nat} {lv' : AL} (hs : rel2 (vrel ρ) cst st) (hl : lvR ρ clv lv) (hok : lvOk N clv) (h : gs2 nL k st lv = some (rest, lv')) : ∃ cr clv', stL nL clv k cst = some (cr, clv') ∧ rel2 (vrel ρ) cr rest ∧ lvR ρ clv' lv' ∧ lvOk N clv' := by
  rw [gs2_def] at h
  split at h
  · rename_i e r'
    cases hk : Nat.blt (Nat.succ k) nL with
    | false => rw [hk] at h; cases h
    | true =>
      rw [hk] at h
      cases h
      obtain ⟨v1, c1, e1, h1, hs1⟩ := rel2_cons hs
      obtain ⟨x', e4, h4⟩ := vJ_inv h1
      subst e1; subst e4
      refine ⟨c1, lvSet2 clv k (.long x'), ?_, hs1, lvR_set2 hl h1, lvOk_set2 hok rfl⟩
      show (if k + 1 < nL then some (c1, lvSet2 clv k (.long x')) else none) = _
      rw [if_pos (blt_iff.mp hk)]
  · cases h
theorem s3_ok {nL k N : Nat} {lv' : AL} (hs : rel2 (vrel ρ) cst st) (hl : lvR ρ clv lv) (hok : lvOk N clv) (h : gs3 nL N k st lv = some (rest, lv')) : ∃ cr clv', stA nL clv k cst = some (cr, clv') ∧ rel2 (vrel ρ) cr rest ∧ lvR ρ clv' lv' ∧ lvOk N clv' := by
  rw [gs3_def] at h
  split at h
  · rename_i j r'
    cases hk : Nat.blt k nL with
    | false => rw [hk] at h; cases h
    | true =>
      rw [hk] at h
      cases hj : okVA N (.inr (.inl (some j))) with
      | false => rw [hj] at h; cases h
      | true =>
        rw [hj] at h
        cases h
        obtain ⟨v1, c1, e1, h1, hs1⟩ := rel2_cons hs
        have e4 : v1 = .ref j := h1
        subst e1; subst e4
        refine ⟨c1, lvSet1 clv k (.ref j), ?_, hs1, lvR_set1 hl h1, lvOk_set1 hok (okVA_ok h1 hj)⟩
        show (if k < nL then some (c1, lvSet1 clv k (.ref j)) else none) = _
        rw [if_pos (blt_iff.mp hk)]
  · cases h
theorem s4_ok {c : Nat} {lv' : AL} (hs : rel2 (vrel ρ) cst st) (h : gs4 c st lv = some (rest, lv')) : ∃ v cr, cst = v :: cr ∧ v.category = c ∧ rel2 (vrel ρ) cr rest ∧ lv' = lv := by
  rw [gs4_def] at h
  split at h
  · rename_i v r'
    cases hc : Nat.beq (catA v) c with
    | false => rw [hc] at h; cases h
    | true =>
      rw [hc] at h
      cases h
      obtain ⟨v1, c1, e1, h1, hs1⟩ := rel2_cons hs
      exact ⟨v1, c1, e1, by rw [catA_ok h1]; exact Nat.eq_of_beq_eq_true hc, hs1, rfl⟩
  · cases h
theorem g1_ok {i : Instr} {nL N : Nat} {lv' : AL} (hs : rel2 (vrel ρ) cst st) (hl : lvR ρ clv lv) (hok : lvOk N clv) (h : g1 i nL N st lv = some (rest, lv')) : ∃ cr clv', stepB i nL cst clv = some (cr, clv') ∧ rel2 (vrel ρ) cr rest ∧ lvR ρ clv' lv' ∧ lvOk N clv' := by
  have no : ∀ {P : Prop}, (none : Option (List AV × AL)) = some (rest, lv') → P := fun h => by cases h
  cases i with
  | istore k => exact s1_ok hs hl hok h
  | istore_n k => exact s1_ok hs hl hok h
  | lstore k => exact s2_ok hs hl hok h
  | lstore_n k => exact s2_ok hs hl hok h
  | astore k => exact s3_ok hs hl hok h
  | astore_n k => exact s3_ok hs hl hok h
  | pop =>
    obtain ⟨v, cr, rfl, hc, h1, rfl⟩ := s4_ok hs h
    exact ⟨cr, clv, by simp only [stepB, if_pos hc], h1, hl, hok⟩
  | pop2 =>
    obtain ⟨v, cr, rfl, hc, h1, rfl⟩ := s4_ok hs h
    exact ⟨cr, clv, by simp only [stepB, if_pos hc], h1, hl, hok⟩
  | _ => exact no h
end STEP
