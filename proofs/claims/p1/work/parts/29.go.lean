/-! ===== the runner: from a place on, until places that are told, or the end ===== -/
noncomputable def negC (c : Jvm.ClassFile.Cond) : Jvm.ClassFile.Cond := match c with
  | .eq => .ne
  | .ne => .eq
  | .lt => .ge
  | .ge => .lt
  | .gt => .le
  | .le => .gt
noncomputable def asm (c : Jvm.ClassFile.Cond) (tab : Tb) (fs : List Ln) (x y : Ln) : Option (Tb × List Ln) := match c with
  | .lt => addLe tab fs (pluL (subL x y) 1)
  | .ge => addLe tab fs (subL y x)
  | .gt => addLe tab fs (pluL (subL y x) 1)
  | .le => addLe tab fs (subL x y)
  | .eq => match addLe tab fs (subL x y) with
    | some (t, f) => addLe t f (subL y x)
    | none => none
  | .ne => bif le0 tab fs (subL x y) then addLe tab fs (pluL (subL x y) 1) else bif le0 tab fs (subL y x) then addLe tab fs (pluL (subL y x) 1) else some (tab, fs)
noncomputable def cndZ (c : Jvm.ClassFile.Cond) (a b : Int) : Prop := match c with
  | .lt => a < b
  | .ge => b ≤ a
  | .gt => b < a
  | .le => a ≤ b
  | .eq => a = b
  | .ne => a ≠ b
theorem asm_ok {ρ : Nat → Int} {tab : Tb} {fs : List Ln} (ht : tOk ρ tab) (hf : fOk ρ fs) {c : Jvm.ClassFile.Cond} {x y : Ln} (h : cndZ c (ev ρ x) (ev ρ y)) : ∃ tab' fs', asm c tab fs x y = some (tab', fs') ∧ tOk ρ tab' ∧ fOk ρ fs' := by
  have sub : ∀ {t : Tb} {f : List Ln} {a b : Ln}, tOk ρ t → fOk ρ f → ev ρ a ≤ ev ρ b → ∃ tab' fs', addLe t f (subL a b) = some (tab', fs') ∧ tOk ρ tab' ∧ fOk ρ fs' := fun ht hf h => addLe_ok ht hf (by rw [ev_sub]; omega)
  have sub1 : ∀ {t : Tb} {f : List Ln} {a b : Ln}, tOk ρ t → fOk ρ f → ev ρ a < ev ρ b → ∃ tab' fs', addLe t f (pluL (subL a b) 1) = some (tab', fs') ∧ tOk ρ tab' ∧ fOk ρ fs' := fun ht hf h => addLe_ok ht hf (by rw [ev_plu, ev_sub]; omega)
  cases c with
  | lt => exact sub1 ht hf h
  | ge => exact sub ht hf h
  | gt => exact sub1 ht hf h
  | le => exact sub ht hf h
  | eq =>
    have h' : ev ρ x = ev ρ y := h
    obtain ⟨t, f, e, h1, h2⟩ := sub (a := x) (b := y) ht hf (by omega)
    unfold asm
    simp only [e]
    exact sub h1 h2 (by omega)
  | ne =>
    have h' : ev ρ x ≠ ev ρ y := h
    unfold asm
    try dsimp only
    cases h1 : le0 tab fs (subL x y) with
    | true =>
      have q := le0_ok ht hf h1
      rw [ev_sub] at q
      exact sub1 ht hf (by omega)
    | false =>
      cases h2 : le0 tab fs (subL y x) with
      | true =>
        have q := le0_ok ht hf h2
        rw [ev_sub] at q
        exact sub1 ht hf (by omega)
      | false => exact ⟨tab, fs, rfl, ht, hf⟩
theorem cnd_iff {c : Jvm.ClassFile.Cond} {x y : Int32} : cnd c x y = true ↔ cndZ c x.toInt y.toInt := by
  cases c <;> simp only [cnd, cndZ, decide_eq_true_eq, Int32.lt_iff_toInt_lt, Int32.le_iff_toInt_le, Int32.toInt_inj, ne_eq]
theorem cndZ_neg {c : Jvm.ClassFile.Cond} {a b : Int} (h : ¬ cndZ c a b) : cndZ (negC c) a b := by
  cases c <;> simp only [cndZ, negC] at h ⊢ <;> omega
theorem cnd_neg {c : Jvm.ClassFile.Cond} {x y : Int32} (h : cnd c x y = false) : cndZ (negC c) x.toInt y.toInt := cndZ_neg fun q => by rw [cnd_iff.mpr q] at h; cases h
theorem cmpZ_cnd {c : Jvm.ClassFile.Cond} {a b : Int} : cndZ c (cmpZ a b).toInt (0 : Int32).toInt ↔ cndZ c a b := by
  have e0 : (0 : Int32).toInt = 0 := rfl
  have e1 : (1 : Int32).toInt = 1 := rfl
  have e2 : (-1 : Int32).toInt = -1 := rfl
  unfold cmpZ
  rw [e0]
  by_cases h1 : b < a
  · rw [if_pos h1, e1]
    cases c <;> simp only [cndZ] <;> omega
  · rw [if_neg h1]
    by_cases h2 : a = b
    · subst h2
      rw [if_pos rfl, e0]
      cases c <;> simp [cndZ]
    · rw [if_neg h2, e2]
      cases c <;> simp only [cndZ] <;> omega
noncomputable def jmpA (pc : Nat) (off : Int) : Option Nat := match Int.add (.ofNat pc) off with
  | .ofNat t => some t
  | .negSucc _ => none
theorem jmpA_ok {pc t : Nat} {off : Int} (h : jmpA pc off = some t) : jmp pc off = some t := by
  unfold jmpA at h
  split at h
  · rename_i t' he
    cases h
    have he' : (pc : Int) + off = (t : Int) := he
    unfold jmp
    rw [he', if_pos (Int.natCast_nonneg t)]
    rfl
  · cases h
-- points, contracts
abbrev PE : Type := Nat × List Nat × Pt × List Ln × Option Ln × Nat × Nat
abbrev Ot : Type := Pt × Nat × Nat
abbrev Ct : Type := Nat × Nat × Pt × List Ot
noncomputable def hasPc (pc : Nat) : List PE → Bool
  | [] => false
  | p :: r => bif Nat.beq pc p.1 then true else hasPc pc r
noncomputable def lvAt (lv : AL) : List Nat → Option (List AV) :=
  fun e_0 => List.rec (motive := fun _ => Option (List AV)) (some []) (fun h_0 t_0 ih => (Option.rec (motive := fun _ => Option (List AV)) none (fun a_1726 => (Option.rec (motive := fun _ => Option (List AV)) none (fun q_1727 => (some (a_1726 :: q_1727))) (ih))) (alGet h_0 lv))) e_0 
theorem lvAt_def (lv : AL) (e_0 : List Nat) : lvAt lv e_0 = (match e_0 with
  | [] => some []
  | k :: r => match alGet k lv with
    | some a => (match lvAt lv r with
      | some q => some (a :: q)
      | none => none)
    | none => none) := by
  cases e_0 with
  | nil =>
    show (some []) = _
    try simp only [iAddQ_eq, iMulQ_eq, iNegQ_eq, lenQ_eq, nthQ_eq, setQ_eq, appQ_eq, mapQ_eq, allQ_eq, anyQ_eq, dropQ_eq, takeQ_eq, revQ_eq, getDQ_eq, optLQ_eq, brecC]
    all_goals rfl
  | cons h_0 t_0 =>
    show (Option.rec (motive := fun _ => Option (List AV)) none (fun a_1728 => (Option.rec (motive := fun _ => Option (List AV)) none (fun q_1729 => (some (a_1728 :: q_1729))) (lvAt lv t_0))) (alGet h_0 lv)) = _
    try simp only [iAddQ_eq, iMulQ_eq, iNegQ_eq, lenQ_eq, nthQ_eq, setQ_eq, appQ_eq, mapQ_eq, allQ_eq, anyQ_eq, dropQ_eq, takeQ_eq, revQ_eq, getDQ_eq, optLQ_eq, brecC]
    all_goals
      cases hq_1 : (alGet h_0 lv) with
      | none =>
        try dsimp only [cond_false, cond_true]
        all_goals rfl
      | some y_1730 =>
        try dsimp only [cond_false, cond_true]
        all_goals
          cases hq_2 : (lvAt lv t_0) with
          | none =>
            try dsimp only [cond_false, cond_true]
            all_goals rfl
          | some y_1731 =>
            try dsimp only [cond_false, cond_true]
            all_goals rfl
noncomputable def rkLt (tab : Tb) (fs : List Ln) (θ : Th) (rk r : Option Ln) : Bool :=
  (Option.rec (motive := fun _ => Bool) true (fun r_1732 => (Option.rec (motive := fun _ => Bool) true (fun q_1733 => (le0 tab fs (pluL (subL (sbL θ r_1732) q_1733) (.ofNat (nat_lit 1))))) rk)) r)
theorem rkLt_def (tab : Tb) (fs : List Ln) (θ : Th) (rk r : Option Ln) : rkLt tab fs θ rk r = (match r with
  | none => true
  | some r => match rk with
    | none => true
    | some q => le0 tab fs (pluL (subL (sbL θ r) q) 1)) := by
  show (Option.rec (motive := fun _ => Bool) true (fun r_1732 => (Option.rec (motive := fun _ => Bool) true (fun q_1733 => (le0 tab fs (pluL (subL (sbL θ r_1732) q_1733) (.ofNat (nat_lit 1))))) rk)) r) = _
  all_goals
    cases r with
    | none =>
      try dsimp only [cond_false, cond_true]
      all_goals rfl
    | some y_1734 =>
      try dsimp only [cond_false, cond_true]
      all_goals
        cases rk with
        | none =>
          try dsimp only [cond_false, cond_true]
          all_goals rfl
        | some y_1735 =>
          try dsimp only [cond_false, cond_true]
          all_goals rfl
noncomputable def uniG  : Un → List Ln → List Ln → Un :=
  fun θ e_0 e_1 => List.rec (motive := fun _ => Un → List Ln → Un) (fun θ e_1 => θ) (fun h_0 t_0 ih θ e_1 => (List.rec (motive := fun _ => Un) θ (fun a_1736 q_1737 _ => (ih (uniL θ h_0 a_1736) q_1737)) e_1)) e_0 θ e_1
theorem uniG_def  (θ : Un) (e_0 : List Ln) (e_1 : List Ln) : uniG  θ e_0 e_1 = (match e_0, e_1 with
  | p :: r, a :: q => uniG (uniL θ p a) r q
  | _, _ => θ) := by
  cases e_0 with
  | nil =>
    show θ = _
    try simp only [iAddQ_eq, iMulQ_eq, iNegQ_eq, lenQ_eq, nthQ_eq, setQ_eq, appQ_eq, mapQ_eq, allQ_eq, anyQ_eq, dropQ_eq, takeQ_eq, revQ_eq, getDQ_eq, optLQ_eq, brecC]
    all_goals rfl
  | cons h_0 t_0 =>
    show (List.rec (motive := fun _ => Un) θ (fun a_1738 q_1739 _ => (uniG (uniL θ h_0 a_1738) t_0 q_1739)) e_1) = _
    try simp only [iAddQ_eq, iMulQ_eq, iNegQ_eq, lenQ_eq, nthQ_eq, setQ_eq, appQ_eq, mapQ_eq, allQ_eq, anyQ_eq, dropQ_eq, takeQ_eq, revQ_eq, getDQ_eq, optLQ_eq, brecC]
    all_goals
      cases e_1 with
      | nil =>
        try dsimp only [cond_false, cond_true]
        all_goals rfl
      | cons y_1740 y_1741 =>
        try dsimp only [cond_false, cond_true]
        all_goals rfl
noncomputable def chkG (tab : Tb) (fs : List Ln) (θ : Th) : List Ln → List Ln → Bool :=
  fun e_0 e_1 => List.rec (motive := fun _ => List Ln → Bool) (fun e_1 => (List.rec (motive := fun _ => Bool) true (fun x_1742 x_1743 _ => false) e_1)) (fun h_0 t_0 ih e_1 => (List.rec (motive := fun _ => Bool) false (fun a_1744 q_1745 _ => (Bool.rec (motive := fun _ => Bool) false (ih q_1745) (eqL tab fs (sbL θ h_0) a_1744))) e_1)) e_0 e_1
theorem chkG_def (tab : Tb) (fs : List Ln) (θ : Th) (e_0 : List Ln) (e_1 : List Ln) : chkG tab fs θ e_0 e_1 = (match e_0, e_1 with
  | [], [] => true
  | p :: r, a :: q => bif eqL tab fs (sbL θ p) a then chkG tab fs θ r q else false
  | _, _ => false) := by
  cases e_0 with
  | nil =>
    show (List.rec (motive := fun _ => Bool) true (fun x_1746 x_1747 _ => false) e_1) = _
    try simp only [iAddQ_eq, iMulQ_eq, iNegQ_eq, lenQ_eq, nthQ_eq, setQ_eq, appQ_eq, mapQ_eq, allQ_eq, anyQ_eq, dropQ_eq, takeQ_eq, revQ_eq, getDQ_eq, optLQ_eq, brecC]
    all_goals
      cases e_1 with
      | nil =>
        try dsimp only [cond_false, cond_true]
        all_goals rfl
      | cons y_1748 y_1749 =>
        try dsimp only [cond_false, cond_true]
        all_goals rfl
  | cons h_0 t_0 =>
    show (List.rec (motive := fun _ => Bool) false (fun a_1750 q_1751 _ => (Bool.rec (motive := fun _ => Bool) false (chkG tab fs θ t_0 q_1751) (eqL tab fs (sbL θ h_0) a_1750))) e_1) = _
    try simp only [iAddQ_eq, iMulQ_eq, iNegQ_eq, lenQ_eq, nthQ_eq, setQ_eq, appQ_eq, mapQ_eq, allQ_eq, anyQ_eq, dropQ_eq, takeQ_eq, revQ_eq, getDQ_eq, optLQ_eq, brecC]
    all_goals
      cases e_1 with
      | nil =>
        try dsimp only [cond_false, cond_true]
        all_goals rfl
      | cons y_1752 y_1753 =>
        try dsimp only [cond_false, cond_true]
        all_goals
          cases hq_3 : (eqL tab fs ((sbL θ h_0)) y_1752) with
          | false =>
            try dsimp only [cond_false, cond_true]
            all_goals rfl
          | true =>
            try dsimp only [cond_false, cond_true]
            all_goals rfl
/-- the numbers carried along: the same symbols, or found equal -/
noncomputable def chkGR (n : Nat) (tab : Tb) (fs : List Ln) (θ : Th) (P G : List Ln) : Bool :=
  (Bool.rec (motive := fun _ => Bool) (chkG tab fs θ P G) true (Bool.rec (motive := fun _ => Bool) false (isSy n (nat_lit 0) G) (isSy n (nat_lit 0) P)))
theorem chkGR_def (n : Nat) (tab : Tb) (fs : List Ln) (θ : Th) (P G : List Ln) : chkGR n tab fs θ P G = bif (bif isSy n 0 P then isSy n 0 G else false) then true else chkG tab fs θ P G := by
  show (Bool.rec (motive := fun _ => Bool) (chkG tab fs θ P G) true (Bool.rec (motive := fun _ => Bool) false (isSy n (nat_lit 0) G) (isSy n (nat_lit 0) P))) = _
  try simp only [iAddQ_eq, iMulQ_eq, iNegQ_eq, lenQ_eq, nthQ_eq, setQ_eq, appQ_eq, mapQ_eq, allQ_eq, anyQ_eq, dropQ_eq, takeQ_eq, revQ_eq, getDQ_eq, optLQ_eq, brecC]
  all_goals
    cases hq_1 : ((bif (isSy n 0 P) then (isSy n 0 G) else false)) with
    | false =>
      try dsimp only [cond_false, cond_true]
      all_goals rfl
    | true =>
      try dsimp only [cond_false, cond_true]
      all_goals rfl
noncomputable def onePt (n : Nat) (G : List Ln) (rk : Option Ln) (A : AH) (pr : List PD) (tab : Tb) (fs : List Ln) (ca cb : Nat) (p : PE) (vs : List AV) (θ : Th) : Bool :=
  (Bool.rec (motive := fun _ => Bool) false (Bool.rec (motive := fun _ => Bool) false (Bool.rec (motive := fun _ => Bool) false (Bool.rec (motive := fun _ => Bool) false (Nat.ble cb p.2.2.2.2.2.2) (Nat.ble ca p.2.2.2.2.2.1)) (rkLt tab fs θ rk p.2.2.2.2.1)) (instPR n tab fs θ p.2.2.1 vs A pr)) (chkGR n tab fs θ p.2.2.2.1 G))
theorem onePt_def (n : Nat) (G : List Ln) (rk : Option Ln) (A : AH) (pr : List PD) (tab : Tb) (fs : List Ln) (ca cb : Nat) (p : PE) (vs : List AV) (θ : Th) : onePt n G rk A pr tab fs ca cb p vs θ = bif chkGR n tab fs θ p.2.2.2.1 G then (bif instPR n tab fs θ p.2.2.1 vs A pr then (bif rkLt tab fs θ rk p.2.2.2.2.1 then (bif Nat.ble ca p.2.2.2.2.2.1 then Nat.ble cb p.2.2.2.2.2.2 else false) else false) else false) else false := by
  show (Bool.rec (motive := fun _ => Bool) false (Bool.rec (motive := fun _ => Bool) false (Bool.rec (motive := fun _ => Bool) false (Bool.rec (motive := fun _ => Bool) false (Nat.ble cb p.2.2.2.2.2.2) (Nat.ble ca p.2.2.2.2.2.1)) (rkLt tab fs θ rk p.2.2.2.2.1)) (instPR n tab fs θ p.2.2.1 vs A pr)) (chkGR n tab fs θ p.2.2.2.1 G)) = _
  try simp only [iAddQ_eq, iMulQ_eq, iNegQ_eq, lenQ_eq, nthQ_eq, setQ_eq, appQ_eq, mapQ_eq, allQ_eq, anyQ_eq, dropQ_eq, takeQ_eq, revQ_eq, getDQ_eq, optLQ_eq, brecC]
  all_goals
    cases hq_1 : (chkGR n tab fs θ p.2.2.2.1 G) with
    | false =>
      try dsimp only [cond_false, cond_true]
      all_goals rfl
    | true =>
      try dsimp only [cond_false, cond_true]
      all_goals
        cases hq_2 : (instPR n tab fs θ p.2.2.1 vs A pr) with
        | false =>
          try dsimp only [cond_false, cond_true]
          all_goals rfl
        | true =>
          try dsimp only [cond_false, cond_true]
          all_goals
            cases hq_3 : (rkLt tab fs θ rk p.2.2.2.2.1) with
            | false =>
              try dsimp only [cond_false, cond_true]
              all_goals rfl
            | true =>
              try dsimp only [cond_false, cond_true]
              all_goals
                cases hq_4 : (Nat.ble ca p.2.2.2.2.2.1) with
                | false =>
                  try dsimp only [cond_false, cond_true]
                  all_goals rfl
                | true =>
                  try dsimp only [cond_false, cond_true]
                  all_goals rfl
noncomputable def uniGR (n : Nat) (P G : List Ln) : Un :=
  (Bool.rec (motive := fun _ => Un) (unR n) (uniG un0 P G) (Nat.beq n (nat_lit 0)))
theorem uniGR_def (n : Nat) (P G : List Ln) : uniGR n P G = bif Nat.beq n 0 then uniG un0 P G else unR n := by
  show (Bool.rec (motive := fun _ => Un) (unR n) (uniG un0 P G) (Nat.beq n (nat_lit 0))) = _
  try simp only [iAddQ_eq, iMulQ_eq, iNegQ_eq, lenQ_eq, nthQ_eq, setQ_eq, appQ_eq, mapQ_eq, allQ_eq, anyQ_eq, dropQ_eq, takeQ_eq, revQ_eq, getDQ_eq, optLQ_eq, brecC]
  all_goals
    cases hq_1 : (Nat.beq n 0) with
    | false =>
      try dsimp only [cond_false, cond_true]
      all_goals rfl
    | true =>
      try dsimp only [cond_false, cond_true]
      all_goals rfl
/-- a cheap look ahead: constants among the values -/
noncomputable def preVs (tab : Tb) : List AV → List AV → Bool :=
  fun e_0 e_1 => List.rec (motive := fun _ => List AV → Bool) (fun e_1 => true) (fun h_0 t_0 ih e_1 => (Sum.rec (motive := fun _ => Bool) (fun x_1754 => (Prod.rec (motive := fun _ => Bool) (fun x_1756 x_1757 => (Prod.rec (motive := fun _ => Bool) (fun c_1758 x_1759 => (List.rec (motive := fun _ => Bool) (List.rec (motive := fun _ => Bool) true (fun x_1762 q_1763 _ => (Sum.rec (motive := fun _ => Bool) (fun x_1764 => (Prod.rec (motive := fun _ => Bool) (fun x_1766 e_1767 => (Option.rec (motive := fun _ => Bool) (ih q_1763) (fun c_1768 => (Bool.rec (motive := fun _ => Bool) false (ih q_1763) (eqI c_1758 c_1768))) (cst tab e_1767))) x_1764)) (fun x_1765 => (ih q_1763)) x_1762)) e_1) (fun x_1760 x_1761 _ => (List.rec (motive := fun _ => Bool) true (fun x_1769 q_1770 _ => (ih q_1770)) e_1)) x_1759)) x_1757)) x_1754)) (fun x_1755 => (List.rec (motive := fun _ => Bool) true (fun x_1771 q_1772 _ => (ih q_1772)) e_1)) h_0)) e_0 e_1
theorem preVs_def (tab : Tb) (e_0 : List AV) (e_1 : List AV) : preVs tab e_0 e_1 = (match e_0, e_1 with
  | .inl (_, (c, [])) :: r, .inl (_, e) :: q => (match cst tab e with
    | some c' => bif eqI c c' then preVs tab r q else false
    | none => preVs tab r q)
  | _ :: r, _ :: q => preVs tab r q
  | _, _ => true) := by
  cases e_0 with
  | nil =>
    show true = _
    try simp only [iAddQ_eq, iMulQ_eq, iNegQ_eq, lenQ_eq, nthQ_eq, setQ_eq, appQ_eq, mapQ_eq, allQ_eq, anyQ_eq, dropQ_eq, takeQ_eq, revQ_eq, getDQ_eq, optLQ_eq, brecC]
    all_goals rfl
  | cons h_0 t_0 =>
    show (Sum.rec (motive := fun _ => Bool) (fun x_1773 => (Prod.rec (motive := fun _ => Bool) (fun x_1775 x_1776 => (Prod.rec (motive := fun _ => Bool) (fun c_1777 x_1778 => (List.rec (motive := fun _ => Bool) (List.rec (motive := fun _ => Bool) true (fun x_1781 q_1782 _ => (Sum.rec (motive := fun _ => Bool) (fun x_1783 => (Prod.rec (motive := fun _ => Bool) (fun x_1785 e_1786 => (Option.rec (motive := fun _ => Bool) (preVs tab t_0 q_1782) (fun c_1787 => (Bool.rec (motive := fun _ => Bool) false (preVs tab t_0 q_1782) (eqI c_1777 c_1787))) (cst tab e_1786))) x_1783)) (fun x_1784 => (preVs tab t_0 q_1782)) x_1781)) e_1) (fun x_1779 x_1780 _ => (List.rec (motive := fun _ => Bool) true (fun x_1788 q_1789 _ => (preVs tab t_0 q_1789)) e_1)) x_1778)) x_1776)) x_1773)) (fun x_1774 => (List.rec (motive := fun _ => Bool) true (fun x_1790 q_1791 _ => (preVs tab t_0 q_1791)) e_1)) h_0) = _
    try simp only [iAddQ_eq, iMulQ_eq, iNegQ_eq, lenQ_eq, nthQ_eq, setQ_eq, appQ_eq, mapQ_eq, allQ_eq, anyQ_eq, dropQ_eq, takeQ_eq, revQ_eq, getDQ_eq, optLQ_eq, brecC]
    all_goals
      cases h_0 with
      | inl y_1792 =>
        try dsimp only [cond_false, cond_true]
        all_goals
          cases y_1792 with
          | mk y_1793 y_1794 =>
            try dsimp only [cond_false, cond_true]
            all_goals
              cases y_1794 with
              | mk y_1795 y_1796 =>
                try dsimp only [cond_false, cond_true]
                all_goals
                  cases y_1796 with
                  | nil =>
                    try dsimp only [cond_false, cond_true]
                    all_goals
                      cases e_1 with
                      | nil =>
                        try dsimp only [cond_false, cond_true]
                        all_goals rfl
                      | cons y_1797 y_1798 =>
                        try dsimp only [cond_false, cond_true]
                        all_goals
                          cases y_1797 with
                          | inl y_1799 =>
                            try dsimp only [cond_false, cond_true]
                            all_goals
                              cases y_1799 with
                              | mk y_1800 y_1801 =>
                                try dsimp only [cond_false, cond_true]
                                all_goals
                                  cases hq_8 : (cst tab y_1801) with
                                  | none =>
                                    try dsimp only [cond_false, cond_true]
                                    all_goals rfl
                                  | some y_1802 =>
                                    try dsimp only [cond_false, cond_true]
                                    all_goals
                                      cases hq_9 : (eqI y_1795 y_1802) with
                                      | false =>
                                        try dsimp only [cond_false, cond_true]
                                        all_goals rfl
                                      | true =>
                                        try dsimp only [cond_false, cond_true]
                                        all_goals rfl
                          | inr y_1803 =>
                            try dsimp only [cond_false, cond_true]
                            all_goals rfl
                  | cons y_1804 y_1805 =>
                    try dsimp only [cond_false, cond_true]
                    all_goals
                      cases e_1 with
                      | nil =>
                        try dsimp only [cond_false, cond_true]
                        all_goals rfl
                      | cons y_1806 y_1807 =>
                        try dsimp only [cond_false, cond_true]
                        all_goals rfl
      | inr y_1808 =>
        try dsimp only [cond_false, cond_true]
        all_goals
          cases e_1 with
          | nil =>
            try dsimp only [cond_false, cond_true]
            all_goals rfl
          | cons y_1809 y_1810 =>
            try dsimp only [cond_false, cond_true]
            all_goals rfl
noncomputable def atPt (n : Nat) (G : List Ln) (rk : Option Ln) (pc : Nat) (st : List AV) (lv : AL) (A : AH) (pr : List PD) (tab : Tb) (fs : List Ln) (ca cb : Nat) (p : PE) : Bool :=
  (Bool.rec (motive := fun _ => Bool) false (Option.rec (motive := fun _ => Bool) false (fun q_1811 => (Bool.rec (motive := fun _ => Bool) false (Bool.rec (motive := fun _ => Bool) false (withR n (uniP tab fs pr (uniHR n (uniVs (uniGR n p.2.2.2.1 G) p.2.2.1.2.2.2.1 (appQ st q_1811)) p.2.2.1.2.2.2.2.1 A) p.2.2.1.2.2.2.2.2) (onePt n G rk A pr tab fs ca cb p (appQ st q_1811))) (preVs tab p.2.2.1.2.2.2.1 (appQ st q_1811))) (Nat.beq (Nat.add (lenQ st) (lenQ p.2.1)) (lenQ p.2.2.1.2.2.2.1)))) (lvAt lv p.2.1)) (Nat.beq pc p.1))
theorem atPt_def (n : Nat) (G : List Ln) (rk : Option Ln) (pc : Nat) (st : List AV) (lv : AL) (A : AH) (pr : List PD) (tab : Tb) (fs : List Ln) (ca cb : Nat) (p : PE) : atPt n G rk pc st lv A pr tab fs ca cb p = (bif Nat.beq pc p.1 then (match lvAt lv p.2.1 with
  | some q => (bif Nat.beq (Nat.add st.length p.2.1.length) p.2.2.1.2.2.2.1.length then (bif preVs tab p.2.2.1.2.2.2.1 (st ++ q) then withR n (uniP tab fs pr (uniHR n (uniVs (uniGR n p.2.2.2.1 G) p.2.2.1.2.2.2.1 (st ++ q)) p.2.2.1.2.2.2.2.1 A) p.2.2.1.2.2.2.2.2) (onePt n G rk A pr tab fs ca cb p (st ++ q)) else false) else false)
  | none => false) else false) := by
  show (Bool.rec (motive := fun _ => Bool) false (Option.rec (motive := fun _ => Bool) false (fun q_1811 => (Bool.rec (motive := fun _ => Bool) false (Bool.rec (motive := fun _ => Bool) false (withR n (uniP tab fs pr (uniHR n (uniVs (uniGR n p.2.2.2.1 G) p.2.2.1.2.2.2.1 (appQ st q_1811)) p.2.2.1.2.2.2.2.1 A) p.2.2.1.2.2.2.2.2) (onePt n G rk A pr tab fs ca cb p (appQ st q_1811))) (preVs tab p.2.2.1.2.2.2.1 (appQ st q_1811))) (Nat.beq (Nat.add (lenQ st) (lenQ p.2.1)) (lenQ p.2.2.1.2.2.2.1)))) (lvAt lv p.2.1)) (Nat.beq pc p.1)) = _
  try simp only [iAddQ_eq, iMulQ_eq, iNegQ_eq, lenQ_eq, nthQ_eq, setQ_eq, appQ_eq, mapQ_eq, allQ_eq, anyQ_eq, dropQ_eq, takeQ_eq, revQ_eq, getDQ_eq, optLQ_eq, brecC]
  all_goals
    cases hq_1 : (Nat.beq pc p.1) with
    | false =>
      try dsimp only [cond_false, cond_true]
      all_goals rfl
    | true =>
      try dsimp only [cond_false, cond_true]
      all_goals
        cases hq_2 : (lvAt lv p.2.1) with
        | none =>
          try dsimp only [cond_false, cond_true]
          all_goals rfl
        | some y_1812 =>
          try dsimp only [cond_false, cond_true]
          all_goals
            cases hq_3 : (Nat.beq ((Nat.add st.length p.2.1.length)) p.2.2.1.2.2.2.1.length) with
            | false =>
              try dsimp only [cond_false, cond_true]
              all_goals rfl
            | true =>
              try dsimp only [cond_false, cond_true]
              all_goals
                cases hq_4 : (preVs tab p.2.2.1.2.2.2.1 ((st ++ y_1812))) with
                | false =>
                  try dsimp only [cond_false, cond_true]
                  all_goals rfl
                | true =>
                  try dsimp only [cond_false, cond_true]
                  all_goals rfl
noncomputable def anyPt (n : Nat) (G : List Ln) (rk : Option Ln) (pc : Nat) (st : List AV) (lv : AL) (A : AH) (pr : List PD) (tab : Tb) (fs : List Ln) (ca cb : Nat) : List PE → Bool :=
  fun e_0 => List.rec (motive := fun _ => Bool) false (fun h_0 t_0 ih => (Bool.rec (motive := fun _ => Bool) (ih) true (atPt n G rk pc st lv A pr tab fs ca cb h_0))) e_0 
theorem anyPt_def (n : Nat) (G : List Ln) (rk : Option Ln) (pc : Nat) (st : List AV) (lv : AL) (A : AH) (pr : List PD) (tab : Tb) (fs : List Ln) (ca cb : Nat) (e_0 : List PE) : anyPt n G rk pc st lv A pr tab fs ca cb e_0 = (match e_0 with
  | [] => false
  | p :: r => bif atPt n G rk pc st lv A pr tab fs ca cb p then true else anyPt n G rk pc st lv A pr tab fs ca cb r) := by
  cases e_0 with
  | nil =>
    show false = _
    try simp only [iAddQ_eq, iMulQ_eq, iNegQ_eq, lenQ_eq, nthQ_eq, setQ_eq, appQ_eq, mapQ_eq, allQ_eq, anyQ_eq, dropQ_eq, takeQ_eq, revQ_eq, getDQ_eq, optLQ_eq, brecC]
    all_goals rfl
  | cons h_0 t_0 =>
    show (Bool.rec (motive := fun _ => Bool) (anyPt n G rk pc st lv A pr tab fs ca cb t_0) true (atPt n G rk pc st lv A pr tab fs ca cb h_0)) = _
    try simp only [iAddQ_eq, iMulQ_eq, iNegQ_eq, lenQ_eq, nthQ_eq, setQ_eq, appQ_eq, mapQ_eq, allQ_eq, anyQ_eq, dropQ_eq, takeQ_eq, revQ_eq, getDQ_eq, optLQ_eq, brecC]
    all_goals
      cases hq_1 : (atPt n G rk pc st lv A pr tab fs ca cb h_0) with
      | false =>
        try dsimp only [cond_false, cond_true]
        all_goals rfl
      | true =>
        try dsimp only [cond_false, cond_true]
        all_goals rfl
abbrev KK : Type := Nat → List AV → AL → AH → List PD → Nat → Tb → List Ln → Nat → Nat → Bool
noncomputable def pushF (nx : Nat) (fs : List Ln) (f : Option Ln) : List Ln :=
  (Option.rec (motive := fun _ => List Ln) fs (fun e_1813 => ((subL (sL nx) e_1813) :: fs)) f)
theorem pushF_def (nx : Nat) (fs : List Ln) (f : Option Ln) : pushF nx fs f = (match f with
  | some e => subL (sL nx) e :: fs
  | none => fs) := by
  show (Option.rec (motive := fun _ => List Ln) fs (fun e_1813 => ((subL (sL nx) e_1813) :: fs)) f) = _
  all_goals
    cases f with
    | none =>
      try dsimp only [cond_false, cond_true]
      all_goals rfl
    | some y_1814 =>
      try dsimp only [cond_false, cond_true]
      all_goals rfl
noncomputable def pushR (nx : Nat) (tab : Tb) (fs : List Ln) (r : RV) (k : Nat → Tb → List Ln → AV → Bool) : Bool :=
  (Sum.rec (motive := fun _ => Bool) (fun v_1815 => (k nx tab fs v_1815)) (fun x_1816 => (Prod.rec (motive := fun _ => Bool) (fun lg_1817 x_1818 => (Sum.rec (motive := fun _ => Bool) (fun e_1819 => (k nx tab fs (.inl (lg_1817, e_1819)))) (fun x_1820 => (Prod.rec (motive := fun _ => Bool) (fun lo_1821 x_1822 => (Prod.rec (motive := fun _ => Bool) (fun hi_1823 f_1824 => (Bool.rec (motive := fun _ => Bool) (k (Nat.succ nx) (tbIns nx lo_1821 hi_1823 tab) (pushF nx fs f_1824) (.inl (lg_1817, (sL nx)))) (k nx tab fs (.inl (lg_1817, (kL lo_1821)))) (eqI lo_1821 hi_1823))) x_1822)) x_1820)) x_1818)) x_1816)) r)
theorem pushR_def (nx : Nat) (tab : Tb) (fs : List Ln) (r : RV) (k : Nat → Tb → List Ln → AV → Bool) : pushR nx tab fs r k = (match r with
  | .inl v => k nx tab fs v
  | .inr (lg, .inl e) => k nx tab fs (.inl (lg, e))
  | .inr (lg, .inr (lo, hi, f)) => bif eqI lo hi then k nx tab fs (.inl (lg, kL lo)) else k (Nat.succ nx) (tbIns nx lo hi tab) (pushF nx fs f) (.inl (lg, sL nx))) := by
  show (Sum.rec (motive := fun _ => Bool) (fun v_1815 => (k nx tab fs v_1815)) (fun x_1816 => (Prod.rec (motive := fun _ => Bool) (fun lg_1817 x_1818 => (Sum.rec (motive := fun _ => Bool) (fun e_1819 => (k nx tab fs (.inl (lg_1817, e_1819)))) (fun x_1820 => (Prod.rec (motive := fun _ => Bool) (fun lo_1821 x_1822 => (Prod.rec (motive := fun _ => Bool) (fun hi_1823 f_1824 => (Bool.rec (motive := fun _ => Bool) (k (Nat.succ nx) (tbIns nx lo_1821 hi_1823 tab) (pushF nx fs f_1824) (.inl (lg_1817, (sL nx)))) (k nx tab fs (.inl (lg_1817, (kL lo_1821)))) (eqI lo_1821 hi_1823))) x_1822)) x_1820)) x_1818)) x_1816)) r) = _
  try simp only [iAddQ_eq, iMulQ_eq, iNegQ_eq, lenQ_eq, nthQ_eq, setQ_eq, appQ_eq, mapQ_eq, allQ_eq, anyQ_eq, dropQ_eq, takeQ_eq, revQ_eq, getDQ_eq, optLQ_eq, brecC]
  all_goals
    cases r with
    | inl y_1825 =>
      try dsimp only [cond_false, cond_true]
      all_goals rfl
    | inr y_1826 =>
      try dsimp only [cond_false, cond_true]
      all_goals
        cases y_1826 with
        | mk y_1827 y_1828 =>
          try dsimp only [cond_false, cond_true]
          all_goals
            cases y_1828 with
            | inl y_1829 =>
              try dsimp only [cond_false, cond_true]
              all_goals rfl
            | inr y_1830 =>
              try dsimp only [cond_false, cond_true]
              all_goals
                cases y_1830 with
                | mk y_1831 y_1832 =>
                  try dsimp only [cond_false, cond_true]
                  all_goals
                    cases y_1832 with
                    | mk y_1833 y_1834 =>
                      try dsimp only [cond_false, cond_true]
                      all_goals
                        cases hq_6 : (eqI y_1831 y_1833) with
                        | false =>
                          try dsimp only [cond_false, cond_true]
                          all_goals rfl
                        | true =>
                          try dsimp only [cond_false, cond_true]
                          all_goals rfl
noncomputable def onO (r : Option (Tb × List Ln)) (f : Tb → List Ln → Bool) : Bool := match r with
  | some (t, g) => f t g
  | none => true
noncomputable def onJ (r : Option Nat) (f : Nat → Bool) : Bool := match r with
  | some t => f t
  | none => false
noncomputable def br (k : Nat → Tb → List Ln → Bool) (c : Jvm.ClassFile.Cond) (tab : Tb) (fs : List Ln) (x y : Ln) (t e : Nat) : Bool := bif onO (asm c tab fs x y) (k t) then onO (asm (negC c) tab fs x y) (k e) else false
/-- of longs: unlike is below or above -/
noncomputable def brC (k : Nat → Tb → List Ln → Bool) (c : Jvm.ClassFile.Cond) (tab : Tb) (fs : List Ln) (x y : Ln) (t e : Nat) : Bool := match c with
  | .eq => bif onO (asm .eq tab fs x y) (k t) then (bif onO (asm .lt tab fs x y) (k e) then onO (asm .gt tab fs x y) (k e) else false) else false
  | .ne => bif onO (asm .eq tab fs x y) (k e) then (bif onO (asm .lt tab fs x y) (k t) then onO (asm .gt tab fs x y) (k t) else false) else false
  | c => br k c tab fs x y t e
noncomputable def tsAll (k : Nat → Tb → List Ln → Bool) (pc : Nat) (tab : Tb) (fs : List Ln) (x : Ln) : Int → List Int → Bool
  | _, [] => true
  | v, off :: r => bif onO (asm .eq tab fs x (kL v)) (fun tab' fs' => onJ (jmpA pc off) (fun t => k t tab' fs')) then tsAll k pc tab fs x (Int.add v 1) r else false
noncomputable def lsAll (k : Nat → Tb → List Ln → Bool) (pc : Nat) (tab : Tb) (fs : List Ln) (x : Ln) : List (Int × Int) → Bool
  | [] => true
  | (v, off) :: r => bif onO (asm .eq tab fs x (kL v)) (fun tab' fs' => onJ (jmpA pc off) (fun t => k t tab' fs')) then lsAll k pc tab fs x r else false
noncomputable def lsNe (x : Ln) : List (Int × Int) → Tb → List Ln → Option (Tb × List Ln)
  | [], tab, fs => some (tab, fs)
  | (v, _) :: r, tab, fs => match asm .ne tab fs x (kL v) with
    | some (tab', fs') => lsNe x r tab' fs'
    | none => none
noncomputable def g2 (k : Nat → List AV → Tb → List Ln → Bool) (i : Instr) (pc : Nat) (tab : Tb) (fs : List Ln) (st : List AV) : Bool := match i with
  | .goto off => onJ (jmpA pc off) (fun t => k t st tab fs)
  | .ifCond c off => onJ (jmpA pc off) (fun t => match st with
      | .inl (false, x) :: r => br (fun t => k t r) c tab fs x (kL 0) t (Nat.add pc 3)
      | .inr (.inr (p, q)) :: r => brC (fun t => k t r) c tab fs p q t (Nat.add pc 3)
      | _ => false)
  | .if_icmp c off => onJ (jmpA pc off) (fun t => match st with
      | .inl (false, y) :: .inl (false, x) :: r => br (fun t => k t r) c tab fs x y t (Nat.add pc 3)
      | _ => false)
  | .ifnull off => match st with
    | .inr (.inl (some _)) :: r => k (Nat.add pc 3) r tab fs
    | .inr (.inl none) :: r => onJ (jmpA pc off) (fun t => k t r tab fs)
    | _ => false
  | .ifnonnull off => match st with
    | .inr (.inl (some _)) :: r => onJ (jmpA pc off) (fun t => k t r tab fs)
    | .inr (.inl none) :: r => k (Nat.add pc 3) r tab fs
    | _ => false
  | .tableswitch d lo hi offs => match st with
    | .inl (false, x) :: r => onJ (jmpA pc d) (fun t => bif leI (Int.add (Int.add hi (Int.neg lo)) 1) (.ofNat offs.toList.length) then (bif onO (asm .lt tab fs x (kL lo)) (k t r) then (bif onO (asm .gt tab fs x (kL hi)) (k t r) then tsAll (fun t => k t r) pc tab fs x lo offs.toList else false) else false) else false)
    | _ => false
  | .lookupswitch d ps => match st with
    | .inl (false, x) :: r => onJ (jmpA pc d) (fun t => bif (ps.toList.zip (ps.toList.drop 1)).all (fun (a, next) => a.1 < next.1) then (bif onO (lsNe x ps.toList tab fs) (k t r) then lsAll (fun t => k t r) pc tab fs x ps.toList else false) else false)
    | _ => false
  | _ => false
noncomputable def loopJ (f : Nat → Bool) : Nat → Nat → Bool :=
  fun e_0 e_1 => Nat.rec (motive := fun _ => Nat → Bool) (fun e_1 => true) (fun t_0 ih e_1 => (Bool.rec (motive := fun _ => Bool) false (ih (Nat.succ e_1)) (f e_1))) e_0 e_1
theorem loopJ_def (f : Nat → Bool) (e_0 : Nat) (e_1 : Nat) : loopJ f e_0 e_1 = (match e_0, e_1 with
  | 0, _ => true
  | c + 1, j => bif f j then loopJ f c (Nat.succ j) else false) := by
  cases e_0 with
  | zero =>
    show true = _
    try simp only [iAddQ_eq, iMulQ_eq, iNegQ_eq, lenQ_eq, nthQ_eq, setQ_eq, appQ_eq, mapQ_eq, allQ_eq, anyQ_eq, dropQ_eq, takeQ_eq, revQ_eq, getDQ_eq, optLQ_eq, brecC]
    all_goals rfl
  | succ t_0 =>
    show (Bool.rec (motive := fun _ => Bool) false (loopJ f t_0 (Nat.succ e_1)) (f e_1)) = _
    try simp only [iAddQ_eq, iMulQ_eq, iNegQ_eq, lenQ_eq, nthQ_eq, setQ_eq, appQ_eq, mapQ_eq, allQ_eq, anyQ_eq, dropQ_eq, takeQ_eq, revQ_eq, getDQ_eq, optLQ_eq, brecC]
    all_goals
      cases hq_1 : (f e_1) with
      | false =>
        try dsimp only [cond_false, cond_true]
        all_goals rfl
      | true =>
        try dsimp only [cond_false, cond_true]
        all_goals rfl
noncomputable def rfA (o : Option Nat) : AV := .inr (.inl o)
noncomputable def aaL (k : List AV → Tb → List Ln → Bool) (tab : Tb) (fs : List Ln) (A : AH) (st : List AV) : Bool := match st with
  | .inl (false, e) :: .inr (.inl (some q)) :: r => (match A[q]? with
    | some (.inr (kk, .inr (.inr l))) => bif Nat.ble 4 kk then (bif Nat.blt kk 8 then (match idxR tab fs e with
      | some (x, u) => bif Nat.blt u l.length then loopJ (fun j => onO (asm .eq tab fs e (kL (.ofNat j))) (fun tab' fs' => k (rfA (l.getD j none) :: r) tab' fs')) (Nat.succ (Nat.sub u x)) x else false
      | none => false) else false) else false
    | _ => false)
  | _ => false
-- a call
noncomputable def sbV (θ : Th) (a : AV) : AV :=
  (Sum.rec (motive := fun _ => AV) (fun x_1835 => (Prod.rec (motive := fun _ => AV) (fun b_1837 e_1838 => (.inl (b_1837, (sbL θ e_1838)))) x_1835)) (fun x_1836 => (Sum.rec (motive := fun _ => AV) (fun x_1839 => a) (fun x_1840 => (Prod.rec (motive := fun _ => AV) (fun p_1841 q_1842 => (.inr (.inr ((sbL θ p_1841), (sbL θ q_1842))))) x_1840)) x_1836)) a)
theorem sbV_def (θ : Th) (a : AV) : sbV θ a = (match a with
  | .inl (b, e) => .inl (b, sbL θ e)
  | .inr (.inr (p, q)) => .inr (.inr (sbL θ p, sbL θ q))
  | a => a) := by
  show (Sum.rec (motive := fun _ => AV) (fun x_1835 => (Prod.rec (motive := fun _ => AV) (fun b_1837 e_1838 => (.inl (b_1837, (sbL θ e_1838)))) x_1835)) (fun x_1836 => (Sum.rec (motive := fun _ => AV) (fun x_1839 => a) (fun x_1840 => (Prod.rec (motive := fun _ => AV) (fun p_1841 q_1842 => (.inr (.inr ((sbL θ p_1841), (sbL θ q_1842))))) x_1840)) x_1836)) a) = _
  all_goals
    cases a with
    | inl y_1843 =>
      try dsimp only [cond_false, cond_true]
      all_goals
        cases y_1843 with
        | mk y_1844 y_1845 =>
          try dsimp only [cond_false, cond_true]
          all_goals rfl
    | inr y_1846 =>
      try dsimp only [cond_false, cond_true]
      all_goals
        cases y_1846 with
        | inl y_1847 =>
          try dsimp only [cond_false, cond_true]
          all_goals rfl
        | inr y_1848 =>
          try dsimp only [cond_false, cond_true]
          all_goals
            cases y_1848 with
            | mk y_1849 y_1850 =>
              try dsimp only [cond_false, cond_true]
              all_goals rfl
noncomputable def sbS (θ : Th) (s : Sg) : Sg :=
  (Sum.rec (motive := fun _ => Sg) (fun e_1851 => (.inl (sbL θ e_1851))) (fun x_1852 => s) s)
theorem sbS_def (θ : Th) (s : Sg) : sbS θ s = (match s with
  | .inl e => .inl (sbL θ e)
  | s => s) := by
  show (Sum.rec (motive := fun _ => Sg) (fun e_1851 => (.inl (sbL θ e_1851))) (fun x_1852 => s) s) = _
  all_goals
    cases s with
    | inl y_1853 =>
      try dsimp only [cond_false, cond_true]
      all_goals rfl
    | inr y_1854 =>
      try dsimp only [cond_false, cond_true]
      all_goals rfl
noncomputable def sbC (θ : Th) (c : AC) : AC :=
  (Sum.rec (motive := fun _ => AC) (fun x_1855 => (Prod.rec (motive := fun _ => AC) (fun ci_1857 as_1858 => (.inl (ci_1857, (mapQ (sbV θ) as_1858)))) x_1855)) (fun x_1856 => (Prod.rec (motive := fun _ => AC) (fun k_1859 x_1860 => (Sum.rec (motive := fun _ => AC) (fun s_1861 => (.inr (k_1859, (.inl (mapQ (sbS θ) s_1861))))) (fun x_1862 => c) x_1860)) x_1856)) c)
theorem sbC_def (θ : Th) (c : AC) : sbC θ c = (match c with
  | .inl (ci, as) => .inl (ci, as.map (sbV θ))
  | .inr (k, .inl s) => .inr (k, .inl (s.map (sbS θ)))
  | c => c) := by
  show (Sum.rec (motive := fun _ => AC) (fun x_1855 => (Prod.rec (motive := fun _ => AC) (fun ci_1857 as_1858 => (.inl (ci_1857, (mapQ (sbV θ) as_1858)))) x_1855)) (fun x_1856 => (Prod.rec (motive := fun _ => AC) (fun k_1859 x_1860 => (Sum.rec (motive := fun _ => AC) (fun s_1861 => (.inr (k_1859, (.inl (mapQ (sbS θ) s_1861))))) (fun x_1862 => c) x_1860)) x_1856)) c) = _
  try simp only [iAddQ_eq, iMulQ_eq, iNegQ_eq, lenQ_eq, nthQ_eq, setQ_eq, appQ_eq, mapQ_eq, allQ_eq, anyQ_eq, dropQ_eq, takeQ_eq, revQ_eq, getDQ_eq, optLQ_eq, brecC]
  all_goals
    cases c with
    | inl y_1863 =>
      try dsimp only [cond_false, cond_true]
      all_goals
        cases y_1863 with
        | mk y_1864 y_1865 =>
          try dsimp only [cond_false, cond_true]
          all_goals rfl
    | inr y_1866 =>
      try dsimp only [cond_false, cond_true]
      all_goals
        cases y_1866 with
        | mk y_1867 y_1868 =>
          try dsimp only [cond_false, cond_true]
          all_goals
            cases y_1868 with
            | inl y_1869 =>
              try dsimp only [cond_false, cond_true]
              all_goals rfl
            | inr y_1870 =>
              try dsimp only [cond_false, cond_true]
              all_goals rfl
/-- the outcome's own symbols become new ones -/
noncomputable def thN (θ : Th) (nx pnx : Nat) (s : Nat) : Ln :=
  (Bool.rec (motive := fun _ => Ln) (sL (Nat.add nx (Nat.sub s pnx))) (θ s) (Nat.blt s pnx))
theorem thN_def (θ : Th) (nx pnx : Nat) (s : Nat) : thN θ nx pnx s = bif Nat.blt s pnx then θ s else sL (Nat.add nx (Nat.sub s pnx)) := by
  show (Bool.rec (motive := fun _ => Ln) (sL (Nat.add nx (Nat.sub s pnx))) (θ s) (Nat.blt s pnx)) = _
  try simp only [iAddQ_eq, iMulQ_eq, iNegQ_eq, lenQ_eq, nthQ_eq, setQ_eq, appQ_eq, mapQ_eq, allQ_eq, anyQ_eq, dropQ_eq, takeQ_eq, revQ_eq, getDQ_eq, optLQ_eq, brecC]
  all_goals
    cases hq_1 : (Nat.blt s pnx) with
    | false =>
      try dsimp only [cond_false, cond_true]
      all_goals rfl
    | true =>
      try dsimp only [cond_false, cond_true]
      all_goals rfl
/-- their bounds, below all that was known -/
noncomputable def tbN (tab : Tb) (nx pnx : Nat) (f : Nat → Option (Int × Int)) : Tb :=
  ([], (fun t => (Bool.rec (motive := fun _ => _) (tbLk t tab) (f (Nat.add pnx (Nat.sub t nx))) (Nat.ble nx t))))
theorem tbN_def (tab : Tb) (nx pnx : Nat) (f : Nat → Option (Int × Int)) : tbN tab nx pnx f = ([], fun t => bif Nat.ble nx t then f (Nat.add pnx (Nat.sub t nx)) else tbLk t tab) := by
  show ([], (fun t => (Bool.rec (motive := fun _ => _) (tbLk t tab) (f (Nat.add pnx (Nat.sub t nx))) (Nat.ble nx t)))) = _
  try simp only [iAddQ_eq, iMulQ_eq, iNegQ_eq, lenQ_eq, nthQ_eq, setQ_eq, appQ_eq, mapQ_eq, allQ_eq, anyQ_eq, dropQ_eq, takeQ_eq, revQ_eq, getDQ_eq, optLQ_eq, brecC]
  all_goals rfl
noncomputable def tbO (tab : Tb) (nx pnx onx : Nat) (l : TbL) : Tb :=
  (Bool.rec (motive := fun _ => Tb) (Prod.rec (motive := fun _ => Tb) (fun x_1871 x_1872 => (Prod.rec (motive := fun _ => Tb) (fun f_1873 x_1874 => (tbN tab nx pnx f_1873)) x_1872)) (balT (nat_lit 9) l)) tab (Nat.beq onx pnx))
theorem tbO_def (tab : Tb) (nx pnx onx : Nat) (l : TbL) : tbO tab nx pnx onx l = (bif Nat.beq onx pnx then tab else match balT 9 l with
  | (_, f, _) => tbN tab nx pnx f) := by
  show (Bool.rec (motive := fun _ => Tb) (Prod.rec (motive := fun _ => Tb) (fun x_1871 x_1872 => (Prod.rec (motive := fun _ => Tb) (fun f_1873 x_1874 => (tbN tab nx pnx f_1873)) x_1872)) (balT (nat_lit 9) l)) tab (Nat.beq onx pnx)) = _
  try simp only [iAddQ_eq, iMulQ_eq, iNegQ_eq, lenQ_eq, nthQ_eq, setQ_eq, appQ_eq, mapQ_eq, allQ_eq, anyQ_eq, dropQ_eq, takeQ_eq, revQ_eq, getDQ_eq, optLQ_eq, brecC]
  all_goals
    cases hq_1 : (Nat.beq onx pnx) with
    | false =>
      try dsimp only [cond_false, cond_true]
      all_goals
        cases hq_2 : (balT 9 l) with
        | mk y_1875 y_1876 =>
          try dsimp only [cond_false, cond_true]
          all_goals
            cases y_1876 with
            | mk y_1877 y_1878 =>
              try dsimp only [cond_false, cond_true]
              all_goals rfl
    | true =>
      try dsimp only [cond_false, cond_true]
      all_goals rfl
noncomputable def isFr (e : Ln) (tab : Tb) : Bool :=
  (List.rec (motive := fun _ => Bool) false (fun x_1879 x_1880 _ => (Prod.rec (motive := fun _ => Bool) (fun t_1881 k_1882 => (List.rec (motive := fun _ => Bool) (Bool.rec (motive := fun _ => Bool) false (Bool.rec (motive := fun _ => Bool) false (Option.rec (motive := fun _ => Bool) true (fun x_1885 => false) (tbLk t_1881 tab)) (eqI k_1882 (.ofNat (nat_lit 1)))) (isZ e.1)) (fun x_1883 x_1884 _ => false) x_1880)) x_1879)) e.2)
theorem isFr_def (e : Ln) (tab : Tb) : isFr e tab = (match e.2 with
  | [(t, k)] => bif isZ e.1 then (bif eqI k 1 then (match tbLk t tab with
    | none => true
    | some _ => false) else false) else false
  | _ => false) := by
  show (List.rec (motive := fun _ => Bool) false (fun x_1879 x_1880 _ => (Prod.rec (motive := fun _ => Bool) (fun t_1881 k_1882 => (List.rec (motive := fun _ => Bool) (Bool.rec (motive := fun _ => Bool) false (Bool.rec (motive := fun _ => Bool) false (Option.rec (motive := fun _ => Bool) true (fun x_1885 => false) (tbLk t_1881 tab)) (eqI k_1882 (.ofNat (nat_lit 1)))) (isZ e.1)) (fun x_1883 x_1884 _ => false) x_1880)) x_1879)) e.2) = _
  try simp only [iAddQ_eq, iMulQ_eq, iNegQ_eq, lenQ_eq, nthQ_eq, setQ_eq, appQ_eq, mapQ_eq, allQ_eq, anyQ_eq, dropQ_eq, takeQ_eq, revQ_eq, getDQ_eq, optLQ_eq, brecC]
  all_goals
    cases hq_1 : e.2 with
    | nil =>
      try dsimp only [cond_false, cond_true]
      all_goals rfl
    | cons y_1886 y_1887 =>
      try dsimp only [cond_false, cond_true]
      all_goals
        cases y_1886 with
        | mk y_1888 y_1889 =>
          try dsimp only [cond_false, cond_true]
          all_goals
            cases y_1887 with
            | nil =>
              try dsimp only [cond_false, cond_true]
              all_goals
                cases hq_4 : (isZ e.1) with
                | false =>
                  try dsimp only [cond_false, cond_true]
                  all_goals rfl
                | true =>
                  try dsimp only [cond_false, cond_true]
                  all_goals
                    cases hq_5 : (eqI y_1889 1) with
                    | false =>
                      try dsimp only [cond_false, cond_true]
                      all_goals rfl
                    | true =>
                      try dsimp only [cond_false, cond_true]
                      all_goals
                        cases hq_6 : (tbLk y_1888 tab) with
                        | none =>
                          try dsimp only [cond_false, cond_true]
                          all_goals rfl
                        | some y_1890 =>
                          try dsimp only [cond_false, cond_true]
                          all_goals rfl
            | cons y_1891 y_1892 =>
              try dsimp only [cond_false, cond_true]
              all_goals rfl
noncomputable def hdS (e : Ln) : Nat :=
  (List.rec (motive := fun _ => Nat) (nat_lit 0) (fun x_1893 x_1894 _ => (Prod.rec (motive := fun _ => Nat) (fun t_1895 x_1896 => t_1895) x_1893)) e.2)
theorem hdS_def (e : Ln) : hdS e = (match e.2 with
  | (t, _) :: _ => t
  | [] => 0) := by
  show (List.rec (motive := fun _ => Nat) (nat_lit 0) (fun x_1893 x_1894 _ => (Prod.rec (motive := fun _ => Nat) (fun t_1895 x_1896 => t_1895) x_1893)) e.2) = _
  all_goals
    cases hq_1 : e.2 with
    | nil =>
      try dsimp only [cond_false, cond_true]
      all_goals rfl
    | cons y_1897 y_1898 =>
      try dsimp only [cond_false, cond_true]
      all_goals
        cases y_1897 with
        | mk y_1899 y_1900 =>
          try dsimp only [cond_false, cond_true]
          all_goals rfl
noncomputable def addB (e : Ln) (lo hi : Int) (tab : Tb) (fs : List Ln) : Option (Tb × List Ln) :=
  (Bool.rec (motive := fun _ => Option (Tb × List Ln)) (Option.rec (motive := fun _ => Option (Tb × List Ln)) none (fun x_1901 => (Prod.rec (motive := fun _ => Option (Tb × List Ln)) (fun tab_1902 fs_1903 => (addLe tab_1902 fs_1903 (subL (kL lo) e))) x_1901)) (addLe tab fs (pluL e (iNegQ hi)))) (some ((tbIns (hdS e) lo hi tab), fs)) (isFr e tab))
theorem addB_def (e : Ln) (lo hi : Int) (tab : Tb) (fs : List Ln) : addB e lo hi tab fs = (bif isFr e tab then some (tbIns (hdS e) lo hi tab, fs) else match addLe tab fs (pluL e (Int.neg hi)) with
  | some (tab', fs') => addLe tab' fs' (subL (kL lo) e)
  | none => none) := by
  show (Bool.rec (motive := fun _ => Option (Tb × List Ln)) (Option.rec (motive := fun _ => Option (Tb × List Ln)) none (fun x_1901 => (Prod.rec (motive := fun _ => Option (Tb × List Ln)) (fun tab_1902 fs_1903 => (addLe tab_1902 fs_1903 (subL (kL lo) e))) x_1901)) (addLe tab fs (pluL e (iNegQ hi)))) (some ((tbIns (hdS e) lo hi tab), fs)) (isFr e tab)) = _
  try simp only [iAddQ_eq, iMulQ_eq, iNegQ_eq, lenQ_eq, nthQ_eq, setQ_eq, appQ_eq, mapQ_eq, allQ_eq, anyQ_eq, dropQ_eq, takeQ_eq, revQ_eq, getDQ_eq, optLQ_eq, brecC]
  all_goals
    cases hq_1 : (isFr e tab) with
    | false =>
      try dsimp only [cond_false, cond_true]
      all_goals
        cases hq_2 : (addLe tab fs ((pluL e ((Int.neg hi))))) with
        | none =>
          try dsimp only [cond_false, cond_true]
          all_goals rfl
        | some y_1904 =>
          try dsimp only [cond_false, cond_true]
          all_goals
            cases y_1904 with
            | mk y_1905 y_1906 =>
              try dsimp only [cond_false, cond_true]
              all_goals rfl
    | true =>
      try dsimp only [cond_false, cond_true]
      all_goals rfl
noncomputable def addT' (θ : Th) (pnx : Nat) : TbL → Tb → List Ln → Option (Tb × List Ln) :=
  fun e_0 e_1 e_2 => List.rec (motive := fun _ => Tb → List Ln → Option (Tb × List Ln)) (fun e_1 e_2 => (some (e_1, e_2))) (fun h_0 t_0 ih e_1 e_2 => (Prod.rec (motive := fun _ => Option (Tb × List Ln)) (fun s_1907 x_1908 => (Prod.rec (motive := fun _ => Option (Tb × List Ln)) (fun lo_1909 hi_1910 => (Bool.rec (motive := fun _ => Option (Tb × List Ln)) (some (e_1, e_2)) (Option.rec (motive := fun _ => Option (Tb × List Ln)) none (fun x_1911 => (Prod.rec (motive := fun _ => Option (Tb × List Ln)) (fun tab_1912 fs_1913 => (ih tab_1912 fs_1913)) x_1911)) (addB (θ s_1907) lo_1909 hi_1910 e_1 e_2)) (Nat.blt s_1907 pnx))) x_1908)) h_0)) e_0 e_1 e_2
theorem addT'_def (θ : Th) (pnx : Nat) (e_0 : TbL) (e_1 : Tb) (e_2 : List Ln) : addT' θ pnx e_0 e_1 e_2 = (match e_0, e_1, e_2 with
  | [], tab, fs => some (tab, fs)
  | (s, lo, hi) :: r, tab, fs => bif Nat.blt s pnx then (match addB (θ s) lo hi tab fs with
    | some (tab', fs') => addT' θ pnx r tab' fs'
    | none => none) else some (tab, fs)) := by
  cases e_0 with
  | nil =>
    show (some (e_1, e_2)) = _
    try simp only [iAddQ_eq, iMulQ_eq, iNegQ_eq, lenQ_eq, nthQ_eq, setQ_eq, appQ_eq, mapQ_eq, allQ_eq, anyQ_eq, dropQ_eq, takeQ_eq, revQ_eq, getDQ_eq, optLQ_eq, brecC]
    all_goals rfl
  | cons h_0 t_0 =>
    show (Prod.rec (motive := fun _ => Option (Tb × List Ln)) (fun s_1914 x_1915 => (Prod.rec (motive := fun _ => Option (Tb × List Ln)) (fun lo_1916 hi_1917 => (Bool.rec (motive := fun _ => Option (Tb × List Ln)) (some (e_1, e_2)) (Option.rec (motive := fun _ => Option (Tb × List Ln)) none (fun x_1918 => (Prod.rec (motive := fun _ => Option (Tb × List Ln)) (fun tab_1919 fs_1920 => (addT' θ pnx t_0 tab_1919 fs_1920)) x_1918)) (addB (θ s_1914) lo_1916 hi_1917 e_1 e_2)) (Nat.blt s_1914 pnx))) x_1915)) h_0) = _
    try simp only [iAddQ_eq, iMulQ_eq, iNegQ_eq, lenQ_eq, nthQ_eq, setQ_eq, appQ_eq, mapQ_eq, allQ_eq, anyQ_eq, dropQ_eq, takeQ_eq, revQ_eq, getDQ_eq, optLQ_eq, brecC]
    all_goals
      cases h_0 with
      | mk y_1921 y_1922 =>
        try dsimp only [cond_false, cond_true]
        all_goals
          cases y_1922 with
          | mk y_1923 y_1924 =>
            try dsimp only [cond_false, cond_true]
            all_goals
              cases hq_3 : (Nat.blt y_1921 pnx) with
              | false =>
                try dsimp only [cond_false, cond_true]
                all_goals rfl
              | true =>
                try dsimp only [cond_false, cond_true]
                all_goals
                  cases hq_4 : (addB ((θ y_1921)) y_1923 y_1924 e_1 e_2) with
                  | none =>
                    try dsimp only [cond_false, cond_true]
                    all_goals rfl
                  | some y_1925 =>
                    try dsimp only [cond_false, cond_true]
                    all_goals
                      cases y_1925 with
                      | mk y_1926 y_1927 =>
                        try dsimp only [cond_false, cond_true]
                        all_goals rfl
noncomputable def addF' (θ : Th) : List Ln → Tb → List Ln → Option (Tb × List Ln) :=
  fun e_0 e_1 e_2 => List.rec (motive := fun _ => Tb → List Ln → Option (Tb × List Ln)) (fun e_1 e_2 => (some (e_1, e_2))) (fun h_0 t_0 ih e_1 e_2 => (Option.rec (motive := fun _ => Option (Tb × List Ln)) none (fun x_1928 => (Prod.rec (motive := fun _ => Option (Tb × List Ln)) (fun tab_1929 fs_1930 => (ih tab_1929 fs_1930)) x_1928)) (addLe e_1 e_2 (sbL θ h_0)))) e_0 e_1 e_2
theorem addF'_def (θ : Th) (e_0 : List Ln) (e_1 : Tb) (e_2 : List Ln) : addF' θ e_0 e_1 e_2 = (match e_0, e_1, e_2 with
  | [], tab, fs => some (tab, fs)
  | f :: r, tab, fs => match addLe tab fs (sbL θ f) with
    | some (tab', fs') => addF' θ r tab' fs'
    | none => none) := by
  cases e_0 with
  | nil =>
    show (some (e_1, e_2)) = _
    try simp only [iAddQ_eq, iMulQ_eq, iNegQ_eq, lenQ_eq, nthQ_eq, setQ_eq, appQ_eq, mapQ_eq, allQ_eq, anyQ_eq, dropQ_eq, takeQ_eq, revQ_eq, getDQ_eq, optLQ_eq, brecC]
    all_goals rfl
  | cons h_0 t_0 =>
    show (Option.rec (motive := fun _ => Option (Tb × List Ln)) none (fun x_1931 => (Prod.rec (motive := fun _ => Option (Tb × List Ln)) (fun tab_1932 fs_1933 => (addF' θ t_0 tab_1932 fs_1933)) x_1931)) (addLe e_1 e_2 (sbL θ h_0))) = _
    try simp only [iAddQ_eq, iMulQ_eq, iNegQ_eq, lenQ_eq, nthQ_eq, setQ_eq, appQ_eq, mapQ_eq, allQ_eq, anyQ_eq, dropQ_eq, takeQ_eq, revQ_eq, getDQ_eq, optLQ_eq, brecC]
    all_goals
      cases hq_1 : (addLe e_1 e_2 ((sbL θ h_0))) with
      | none =>
        try dsimp only [cond_false, cond_true]
        all_goals rfl
      | some y_1934 =>
        try dsimp only [cond_false, cond_true]
        all_goals
          cases y_1934 with
          | mk y_1935 y_1936 =>
            try dsimp only [cond_false, cond_true]
            all_goals rfl
/-- a row that the contract doesn't look into: one number, of its own -/
noncomputable def convC (y : Nat) (p a : AC) : AC :=
  (Sum.rec (motive := fun _ => AC) (fun x_1937 => a) (fun x_1938 => (Prod.rec (motive := fun _ => AC) (fun kp_1939 x_1940 => (Sum.rec (motive := fun _ => AC) (fun x_1941 => (Sum.rec (motive := fun _ => AC) (fun x_1943 => a) (fun x_1944 => (Prod.rec (motive := fun _ => AC) (fun kh_1945 x_1946 => (Sum.rec (motive := fun _ => AC) (fun s_1947 => (Bool.rec (motive := fun _ => AC) (.inr (kh_1945, (.inl s_1947))) (Bool.rec (motive := fun _ => AC) (.inr (kh_1945, (.inl s_1947))) (.inr ((Nat.add kh_1945 (nat_lit 100)), (.inl [(.inl (sL y))]))) (Nat.blt kh_1945 (nat_lit 100))) (Nat.ble (nat_lit 100) kp_1939))) (fun x_1948 => a) x_1946)) x_1944)) a)) (fun x_1942 => a) x_1940)) x_1938)) p)
theorem convC_def (y : Nat) (p a : AC) : convC y p a = (match p, a with
  | .inr (kp, .inl _), .inr (kh, .inl s) => bif Nat.ble 100 kp then (bif Nat.blt kh 100 then .inr (Nat.add kh 100, .inl [.inl (sL y)]) else .inr (kh, .inl s)) else .inr (kh, .inl s)
  | _, a => a) := by
  show (Sum.rec (motive := fun _ => AC) (fun x_1937 => a) (fun x_1938 => (Prod.rec (motive := fun _ => AC) (fun kp_1939 x_1940 => (Sum.rec (motive := fun _ => AC) (fun x_1941 => (Sum.rec (motive := fun _ => AC) (fun x_1943 => a) (fun x_1944 => (Prod.rec (motive := fun _ => AC) (fun kh_1945 x_1946 => (Sum.rec (motive := fun _ => AC) (fun s_1947 => (Bool.rec (motive := fun _ => AC) (.inr (kh_1945, (.inl s_1947))) (Bool.rec (motive := fun _ => AC) (.inr (kh_1945, (.inl s_1947))) (.inr ((Nat.add kh_1945 (nat_lit 100)), (.inl [(.inl (sL y))]))) (Nat.blt kh_1945 (nat_lit 100))) (Nat.ble (nat_lit 100) kp_1939))) (fun x_1948 => a) x_1946)) x_1944)) a)) (fun x_1942 => a) x_1940)) x_1938)) p) = _
  try simp only [iAddQ_eq, iMulQ_eq, iNegQ_eq, lenQ_eq, nthQ_eq, setQ_eq, appQ_eq, mapQ_eq, allQ_eq, anyQ_eq, dropQ_eq, takeQ_eq, revQ_eq, getDQ_eq, optLQ_eq, brecC]
  all_goals
    cases p with
    | inl y_1949 =>
      try dsimp only [cond_false, cond_true]
      all_goals rfl
    | inr y_1950 =>
      try dsimp only [cond_false, cond_true]
      all_goals
        cases y_1950 with
        | mk y_1951 y_1952 =>
          try dsimp only [cond_false, cond_true]
          all_goals
            cases y_1952 with
            | inl y_1953 =>
              try dsimp only [cond_false, cond_true]
              all_goals
                cases a with
                | inl y_1954 =>
                  try dsimp only [cond_false, cond_true]
                  all_goals rfl
                | inr y_1955 =>
                  try dsimp only [cond_false, cond_true]
                  all_goals
                    cases y_1955 with
                    | mk y_1956 y_1957 =>
                      try dsimp only [cond_false, cond_true]
                      all_goals
                        cases y_1957 with
                        | inl y_1958 =>
                          try dsimp only [cond_false, cond_true]
                          all_goals
                            cases hq_7 : (Nat.ble 100 y_1951) with
                            | false =>
                              try dsimp only [cond_false, cond_true]
                              all_goals rfl
                            | true =>
                              try dsimp only [cond_false, cond_true]
                              all_goals
                                cases hq_8 : (Nat.blt y_1956 100) with
                                | false =>
                                  try dsimp only [cond_false, cond_true]
                                  all_goals rfl
                                | true =>
                                  try dsimp only [cond_false, cond_true]
                                  all_goals rfl
                        | inr y_1959 =>
                          try dsimp only [cond_false, cond_true]
                          all_goals rfl
            | inr y_1960 =>
              try dsimp only [cond_false, cond_true]
              all_goals rfl
noncomputable def convH (nx : Nat) : Nat → AH → AH → AH :=
  fun e_0 e_1 e_2 => List.rec (motive := fun _ => Nat → AH → AH) (fun e_0 e_2 => e_2) (fun h_0 t_0 ih e_0 e_2 => (List.rec (motive := fun _ => AH) e_2 (fun a_1961 as_1962 _ => ((convC (Nat.add nx e_0) h_0 a_1961) :: (ih (Nat.succ e_0) as_1962))) e_2)) e_1 e_0 e_2
theorem convH_def (nx : Nat) (e_0 : Nat) (e_1 : AH) (e_2 : AH) : convH nx e_0 e_1 e_2 = (match e_0, e_1, e_2 with
  | i, p :: ps, a :: as => convC (Nat.add nx i) p a :: convH nx (Nat.succ i) ps as
  | _, _, A => A) := by
  cases e_1 with
  | nil =>
    show e_2 = _
    try simp only [iAddQ_eq, iMulQ_eq, iNegQ_eq, lenQ_eq, nthQ_eq, setQ_eq, appQ_eq, mapQ_eq, allQ_eq, anyQ_eq, dropQ_eq, takeQ_eq, revQ_eq, getDQ_eq, optLQ_eq, brecC]
    all_goals rfl
  | cons h_0 t_0 =>
    show (List.rec (motive := fun _ => AH) e_2 (fun a_1963 as_1964 _ => ((convC (Nat.add nx e_0) h_0 a_1963) :: (convH nx (Nat.succ e_0) t_0 as_1964))) e_2) = _
    try simp only [iAddQ_eq, iMulQ_eq, iNegQ_eq, lenQ_eq, nthQ_eq, setQ_eq, appQ_eq, mapQ_eq, allQ_eq, anyQ_eq, dropQ_eq, takeQ_eq, revQ_eq, getDQ_eq, optLQ_eq, brecC]
    all_goals
      cases e_2 with
      | nil =>
        try dsimp only [cond_false, cond_true]
        all_goals rfl
      | cons y_1965 y_1966 =>
        try dsimp only [cond_false, cond_true]
        all_goals rfl
/-- a row that came back as it was, or as another was: what was known of that one -/
noncomputable def resC (nx nI : Nat) (H : AH) (c : AC) : AC :=
  (Sum.rec (motive := fun _ => AC) (fun x_1967 => c) (fun x_1968 => (Prod.rec (motive := fun _ => AC) (fun k_1969 x_1970 => (Sum.rec (motive := fun _ => AC) (fun x_1971 => (List.rec (motive := fun _ => AC) c (fun x_1973 x_1974 _ => (Sum.rec (motive := fun _ => AC) (fun x_1975 => (Prod.rec (motive := fun _ => AC) (fun z_1977 x_1978 => (List.rec (motive := fun _ => AC) c (fun x_1979 x_1980 _ => (Prod.rec (motive := fun _ => AC) (fun y_1981 w_1982 => (List.rec (motive := fun _ => AC) (List.rec (motive := fun _ => AC) (Bool.rec (motive := fun _ => AC) c (Option.rec (motive := fun _ => AC) c (fun x_1987 => (Sum.rec (motive := fun _ => AC) (fun x_1988 => c) (fun x_1989 => (Prod.rec (motive := fun _ => AC) (fun kh_1990 x_1991 => (Sum.rec (motive := fun _ => AC) (fun s_1992 => (Bool.rec (motive := fun _ => AC) c (.inr (kh_1990, (.inl s_1992))) (Bool.rec (motive := fun _ => Bool) false (Nat.beq (Nat.add kh_1990 (nat_lit 100)) k_1969) (Nat.blt kh_1990 (nat_lit 100))))) (fun x_1993 => c) x_1991)) x_1989)) x_1987)) (nthQ H (Nat.sub y_1981 nx))) (Bool.rec (motive := fun _ => Bool) false (Bool.rec (motive := fun _ => Bool) false (Bool.rec (motive := fun _ => Bool) false (Bool.rec (motive := fun _ => Bool) false (Nat.blt (Nat.sub y_1981 nx) nI) (Nat.ble nx y_1981)) (eqI w_1982 (.ofNat (nat_lit 1)))) (isZ z_1977)) (Nat.ble (nat_lit 100) k_1969))) (fun x_1985 x_1986 _ => c) x_1974) (fun x_1983 x_1984 _ => c) x_1980)) x_1979)) x_1978)) x_1975)) (fun x_1976 => c) x_1973)) x_1971)) (fun x_1972 => c) x_1970)) x_1968)) c)
theorem resC_def (nx nI : Nat) (H : AH) (c : AC) : resC nx nI H c = (match c with
  | .inr (k, .inl [.inl (z, [(y, w)])]) => bif (bif Nat.ble 100 k then (bif isZ z then (bif eqI w 1 then (bif Nat.ble nx y then Nat.blt (Nat.sub y nx) nI else false) else false) else false) else false) then (match H[Nat.sub y nx]? with
    | some (.inr (kh, .inl s)) => bif (bif Nat.blt kh 100 then Nat.beq (Nat.add kh 100) k else false) then .inr (kh, .inl s) else c
    | _ => c) else c
  | c => c) := by
  show (Sum.rec (motive := fun _ => AC) (fun x_1967 => c) (fun x_1968 => (Prod.rec (motive := fun _ => AC) (fun k_1969 x_1970 => (Sum.rec (motive := fun _ => AC) (fun x_1971 => (List.rec (motive := fun _ => AC) c (fun x_1973 x_1974 _ => (Sum.rec (motive := fun _ => AC) (fun x_1975 => (Prod.rec (motive := fun _ => AC) (fun z_1977 x_1978 => (List.rec (motive := fun _ => AC) c (fun x_1979 x_1980 _ => (Prod.rec (motive := fun _ => AC) (fun y_1981 w_1982 => (List.rec (motive := fun _ => AC) (List.rec (motive := fun _ => AC) (Bool.rec (motive := fun _ => AC) c (Option.rec (motive := fun _ => AC) c (fun x_1987 => (Sum.rec (motive := fun _ => AC) (fun x_1988 => c) (fun x_1989 => (Prod.rec (motive := fun _ => AC) (fun kh_1990 x_1991 => (Sum.rec (motive := fun _ => AC) (fun s_1992 => (Bool.rec (motive := fun _ => AC) c (.inr (kh_1990, (.inl s_1992))) (Bool.rec (motive := fun _ => Bool) false (Nat.beq (Nat.add kh_1990 (nat_lit 100)) k_1969) (Nat.blt kh_1990 (nat_lit 100))))) (fun x_1993 => c) x_1991)) x_1989)) x_1987)) (nthQ H (Nat.sub y_1981 nx))) (Bool.rec (motive := fun _ => Bool) false (Bool.rec (motive := fun _ => Bool) false (Bool.rec (motive := fun _ => Bool) false (Bool.rec (motive := fun _ => Bool) false (Nat.blt (Nat.sub y_1981 nx) nI) (Nat.ble nx y_1981)) (eqI w_1982 (.ofNat (nat_lit 1)))) (isZ z_1977)) (Nat.ble (nat_lit 100) k_1969))) (fun x_1985 x_1986 _ => c) x_1974) (fun x_1983 x_1984 _ => c) x_1980)) x_1979)) x_1978)) x_1975)) (fun x_1976 => c) x_1973)) x_1971)) (fun x_1972 => c) x_1970)) x_1968)) c) = _
  try simp only [iAddQ_eq, iMulQ_eq, iNegQ_eq, lenQ_eq, nthQ_eq, setQ_eq, appQ_eq, mapQ_eq, allQ_eq, anyQ_eq, dropQ_eq, takeQ_eq, revQ_eq, getDQ_eq, optLQ_eq, brecC]
  all_goals
    cases c with
    | inl y_1994 =>
      try dsimp only [cond_false, cond_true]
      all_goals rfl
    | inr y_1995 =>
      try dsimp only [cond_false, cond_true]
      all_goals
        cases y_1995 with
        | mk y_1996 y_1997 =>
          try dsimp only [cond_false, cond_true]
          all_goals
            cases y_1997 with
            | inl y_1998 =>
              try dsimp only [cond_false, cond_true]
              all_goals
                cases y_1998 with
                | nil =>
                  try dsimp only [cond_false, cond_true]
                  all_goals rfl
                | cons y_1999 y_2000 =>
                  try dsimp only [cond_false, cond_true]
                  all_goals
                    cases y_1999 with
                    | inl y_2001 =>
                      try dsimp only [cond_false, cond_true]
                      all_goals
                        cases y_2001 with
                        | mk y_2002 y_2003 =>
                          try dsimp only [cond_false, cond_true]
                          all_goals
                            cases y_2003 with
                            | nil =>
                              try dsimp only [cond_false, cond_true]
                              all_goals rfl
                            | cons y_2004 y_2005 =>
                              try dsimp only [cond_false, cond_true]
                              all_goals
                                cases y_2004 with
                                | mk y_2006 y_2007 =>
                                  try dsimp only [cond_false, cond_true]
                                  all_goals
                                    cases y_2005 with
                                    | nil =>
                                      try dsimp only [cond_false, cond_true]
                                      all_goals
                                        cases y_2000 with
                                        | nil =>
                                          try dsimp only [cond_false, cond_true]
                                          all_goals
                                            cases hq_11 : ((bif (Nat.ble 100 y_1996) then ((bif (isZ y_2002) then ((bif (eqI y_2007 1) then ((bif (Nat.ble nx y_2006) then (Nat.blt ((Nat.sub y_2006 nx)) nI) else false)) else false)) else false)) else false)) with
                                            | false =>
                                              try dsimp only [cond_false, cond_true]
                                              all_goals rfl
                                            | true =>
                                              try dsimp only [cond_false, cond_true]
                                              all_goals
                                                cases hq_12 : H[(Nat.sub y_2006 nx)]? with
                                                | none =>
                                                  try dsimp only [cond_false, cond_true]
                                                  all_goals rfl
                                                | some y_2008 =>
                                                  try dsimp only [cond_false, cond_true]
                                                  all_goals
                                                    cases y_2008 with
                                                    | inl y_2009 =>
                                                      try dsimp only [cond_false, cond_true]
                                                      all_goals rfl
                                                    | inr y_2010 =>
                                                      try dsimp only [cond_false, cond_true]
                                                      all_goals
                                                        cases y_2010 with
                                                        | mk y_2011 y_2012 =>
                                                          try dsimp only [cond_false, cond_true]
                                                          all_goals
                                                            cases y_2012 with
                                                            | inl y_2013 =>
                                                              try dsimp only [cond_false, cond_true]
                                                              all_goals
                                                                cases hq_16 : ((bif (Nat.blt y_2011 100) then (Nat.beq ((Nat.add y_2011 100)) y_1996) else false)) with
                                                                | false =>
                                                                  try dsimp only [cond_false, cond_true]
                                                                  all_goals rfl
                                                                | true =>
                                                                  try dsimp only [cond_false, cond_true]
                                                                  all_goals rfl
                                                            | inr y_2014 =>
                                                              try dsimp only [cond_false, cond_true]
                                                              all_goals rfl
                                        | cons y_2015 y_2016 =>
                                          try dsimp only [cond_false, cond_true]
                                          all_goals rfl
                                    | cons y_2017 y_2018 =>
                                      try dsimp only [cond_false, cond_true]
                                      all_goals rfl
                    | inr y_2019 =>
                      try dsimp only [cond_false, cond_true]
                      all_goals rfl
            | inr y_2020 =>
              try dsimp only [cond_false, cond_true]
              all_goals rfl
noncomputable def sameA (a b : AC) : Bool :=
  (Sum.rec (motive := fun _ => Bool) (fun x_2021 => false) (fun x_2022 => (Prod.rec (motive := fun _ => Bool) (fun k_2023 x_2024 => (Sum.rec (motive := fun _ => Bool) (fun x_2025 => (List.rec (motive := fun _ => Bool) false (fun x_2027 x_2028 _ => (Sum.rec (motive := fun _ => Bool) (fun e_2029 => (List.rec (motive := fun _ => Bool) (Sum.rec (motive := fun _ => Bool) (fun x_2033 => false) (fun x_2034 => (Prod.rec (motive := fun _ => Bool) (fun k_2035 x_2036 => (Sum.rec (motive := fun _ => Bool) (fun x_2037 => (List.rec (motive := fun _ => Bool) false (fun x_2039 x_2040 _ => (Sum.rec (motive := fun _ => Bool) (fun e_2041 => (List.rec (motive := fun _ => Bool) (Bool.rec (motive := fun _ => Bool) false (Bool.rec (motive := fun _ => Bool) false (Bool.rec (motive := fun _ => Bool) false (eqT e_2029.2 e_2041.2) (eqI e_2029.1 e_2041.1)) (Nat.ble (nat_lit 100) k_2035)) (Nat.ble (nat_lit 100) k_2023)) (fun x_2043 x_2044 _ => false) x_2040)) (fun x_2042 => false) x_2039)) x_2037)) (fun x_2038 => false) x_2036)) x_2034)) b) (fun x_2031 x_2032 _ => false) x_2028)) (fun x_2030 => false) x_2027)) x_2025)) (fun x_2026 => false) x_2024)) x_2022)) a)
theorem sameA_def (a b : AC) : sameA a b = (match a, b with
  | .inr (k, .inl [.inl e]), .inr (k', .inl [.inl e']) => bif Nat.ble 100 k then (bif Nat.ble 100 k' then (bif eqI e.1 e'.1 then eqT e.2 e'.2 else false) else false) else false
  | _, _ => false) := by
  show (Sum.rec (motive := fun _ => Bool) (fun x_2021 => false) (fun x_2022 => (Prod.rec (motive := fun _ => Bool) (fun k_2023 x_2024 => (Sum.rec (motive := fun _ => Bool) (fun x_2025 => (List.rec (motive := fun _ => Bool) false (fun x_2027 x_2028 _ => (Sum.rec (motive := fun _ => Bool) (fun e_2029 => (List.rec (motive := fun _ => Bool) (Sum.rec (motive := fun _ => Bool) (fun x_2033 => false) (fun x_2034 => (Prod.rec (motive := fun _ => Bool) (fun k_2035 x_2036 => (Sum.rec (motive := fun _ => Bool) (fun x_2037 => (List.rec (motive := fun _ => Bool) false (fun x_2039 x_2040 _ => (Sum.rec (motive := fun _ => Bool) (fun e_2041 => (List.rec (motive := fun _ => Bool) (Bool.rec (motive := fun _ => Bool) false (Bool.rec (motive := fun _ => Bool) false (Bool.rec (motive := fun _ => Bool) false (eqT e_2029.2 e_2041.2) (eqI e_2029.1 e_2041.1)) (Nat.ble (nat_lit 100) k_2035)) (Nat.ble (nat_lit 100) k_2023)) (fun x_2043 x_2044 _ => false) x_2040)) (fun x_2042 => false) x_2039)) x_2037)) (fun x_2038 => false) x_2036)) x_2034)) b) (fun x_2031 x_2032 _ => false) x_2028)) (fun x_2030 => false) x_2027)) x_2025)) (fun x_2026 => false) x_2024)) x_2022)) a) = _
  try simp only [iAddQ_eq, iMulQ_eq, iNegQ_eq, lenQ_eq, nthQ_eq, setQ_eq, appQ_eq, mapQ_eq, allQ_eq, anyQ_eq, dropQ_eq, takeQ_eq, revQ_eq, getDQ_eq, optLQ_eq, brecC]
  all_goals
    cases a with
    | inl y_2045 =>
      try dsimp only [cond_false, cond_true]
      all_goals rfl
    | inr y_2046 =>
      try dsimp only [cond_false, cond_true]
      all_goals
        cases y_2046 with
        | mk y_2047 y_2048 =>
          try dsimp only [cond_false, cond_true]
          all_goals
            cases y_2048 with
            | inl y_2049 =>
              try dsimp only [cond_false, cond_true]
              all_goals
                cases y_2049 with
                | nil =>
                  try dsimp only [cond_false, cond_true]
                  all_goals rfl
                | cons y_2050 y_2051 =>
                  try dsimp only [cond_false, cond_true]
                  all_goals
                    cases y_2050 with
                    | inl y_2052 =>
                      try dsimp only [cond_false, cond_true]
                      all_goals
                        cases y_2051 with
                        | nil =>
                          try dsimp only [cond_false, cond_true]
                          all_goals
                            cases b with
                            | inl y_2053 =>
                              try dsimp only [cond_false, cond_true]
                              all_goals rfl
                            | inr y_2054 =>
                              try dsimp only [cond_false, cond_true]
                              all_goals
                                cases y_2054 with
                                | mk y_2055 y_2056 =>
                                  try dsimp only [cond_false, cond_true]
                                  all_goals
                                    cases y_2056 with
                                    | inl y_2057 =>
                                      try dsimp only [cond_false, cond_true]
                                      all_goals
                                        cases y_2057 with
                                        | nil =>
                                          try dsimp only [cond_false, cond_true]
                                          all_goals rfl
                                        | cons y_2058 y_2059 =>
                                          try dsimp only [cond_false, cond_true]
                                          all_goals
                                            cases y_2058 with
                                            | inl y_2060 =>
                                              try dsimp only [cond_false, cond_true]
                                              all_goals
                                                cases y_2059 with
                                                | nil =>
                                                  try dsimp only [cond_false, cond_true]
                                                  all_goals
                                                    cases hq_13 : (Nat.ble 100 y_2047) with
                                                    | false =>
                                                      try dsimp only [cond_false, cond_true]
                                                      all_goals rfl
                                                    | true =>
                                                      try dsimp only [cond_false, cond_true]
                                                      all_goals
                                                        cases hq_14 : (Nat.ble 100 y_2055) with
                                                        | false =>
                                                          try dsimp only [cond_false, cond_true]
                                                          all_goals rfl
                                                        | true =>
                                                          try dsimp only [cond_false, cond_true]
                                                          all_goals
                                                            cases hq_15 : (eqI y_2052.1 y_2060.1) with
                                                            | false =>
                                                              try dsimp only [cond_false, cond_true]
                                                              all_goals rfl
                                                            | true =>
                                                              try dsimp only [cond_false, cond_true]
                                                              all_goals rfl
                                                | cons y_2061 y_2062 =>
                                                  try dsimp only [cond_false, cond_true]
                                                  all_goals rfl
                                            | inr y_2063 =>
                                              try dsimp only [cond_false, cond_true]
                                              all_goals rfl
                                    | inr y_2064 =>
                                      try dsimp only [cond_false, cond_true]
                                      all_goals rfl
                        | cons y_2065 y_2066 =>
                          try dsimp only [cond_false, cond_true]
                          all_goals rfl
                    | inr y_2067 =>
                      try dsimp only [cond_false, cond_true]
                      all_goals rfl
            | inr y_2068 =>
              try dsimp only [cond_false, cond_true]
              all_goals rfl
noncomputable def getC (H : AH) (i : Nat) : AC :=
  (getDQ H i (.inl ((nat_lit 0), [])))
theorem getC_def (H : AH) (i : Nat) : getC H i = H.getD i (.inl (0, [])) := by
  show (getDQ H i (.inl ((nat_lit 0), []))) = _
  try simp only [iAddQ_eq, iMulQ_eq, iNegQ_eq, lenQ_eq, nthQ_eq, setQ_eq, appQ_eq, mapQ_eq, allQ_eq, anyQ_eq, dropQ_eq, takeQ_eq, revQ_eq, getDQ_eq, optLQ_eq, brecC]
  all_goals rfl
noncomputable def okP (I : List Nat) (n : Nat) (H' H1 : AH) : List Nat → Bool :=
  fun e_0 => List.rec (motive := fun _ => Bool) true (fun h_0 t_0 ih => (Bool.rec (motive := fun _ => Bool) false (ih) (Bool.rec (motive := fun _ => Bool) (Nat.blt h_0 n) (sameA (getC H' (ixA h_0 I)) (getC H1 (ixA h_0 I))) (memN h_0 I)))) e_0 
theorem okP_def (I : List Nat) (n : Nat) (H' H1 : AH) (e_0 : List Nat) : okP I n H' H1 e_0 = (match e_0 with
  | [] => true
  | c :: r => bif (bif memN c I then sameA (getC H' (ixA c I)) (getC H1 (ixA c I)) else Nat.blt c n) then okP I n H' H1 r else false) := by
  cases e_0 with
  | nil =>
    show true = _
    try simp only [iAddQ_eq, iMulQ_eq, iNegQ_eq, lenQ_eq, nthQ_eq, setQ_eq, appQ_eq, mapQ_eq, allQ_eq, anyQ_eq, dropQ_eq, takeQ_eq, revQ_eq, getDQ_eq, optLQ_eq, brecC]
    all_goals rfl
  | cons h_0 t_0 =>
    show (Bool.rec (motive := fun _ => Bool) false (okP I n H' H1 t_0) (Bool.rec (motive := fun _ => Bool) (Nat.blt h_0 n) (sameA (getC H' (ixA h_0 I)) (getC H1 (ixA h_0 I))) (memN h_0 I))) = _
    try simp only [iAddQ_eq, iMulQ_eq, iNegQ_eq, lenQ_eq, nthQ_eq, setQ_eq, appQ_eq, mapQ_eq, allQ_eq, anyQ_eq, dropQ_eq, takeQ_eq, revQ_eq, getDQ_eq, optLQ_eq, brecC]
    all_goals
      cases hq_1 : ((bif (memN h_0 I) then (sameA ((getC H' ((ixA h_0 I)))) ((getC H1 ((ixA h_0 I))))) else (Nat.blt h_0 n))) with
      | false =>
        try dsimp only [cond_false, cond_true]
        all_goals rfl
      | true =>
        try dsimp only [cond_false, cond_true]
        all_goals rfl
noncomputable def prSame (I : List Nat) (n : Nat) (H' H1 : AH) : List PD → List PD :=
  fun e_0 => List.rec (motive := fun _ => List PD) [] (fun h_0 t_0 ih => (Bool.rec (motive := fun _ => List PD) (ih) (h_0 :: (ih)) (okP I n H' H1 h_0.2.1))) e_0 
theorem prSame_def (I : List Nat) (n : Nat) (H' H1 : AH) (e_0 : List PD) : prSame I n H' H1 e_0 = (match e_0 with
  | [] => []
  | p :: r => bif okP I n H' H1 p.2.1 then p :: prSame I n H' H1 r else prSame I n H' H1 r) := by
  cases e_0 with
  | nil =>
    show [] = _
    try simp only [iAddQ_eq, iMulQ_eq, iNegQ_eq, lenQ_eq, nthQ_eq, setQ_eq, appQ_eq, mapQ_eq, allQ_eq, anyQ_eq, dropQ_eq, takeQ_eq, revQ_eq, getDQ_eq, optLQ_eq, brecC]
    all_goals rfl
  | cons h_0 t_0 =>
    show (Bool.rec (motive := fun _ => List PD) (prSame I n H' H1 t_0) (h_0 :: (prSame I n H' H1 t_0)) (okP I n H' H1 h_0.2.1)) = _
    try simp only [iAddQ_eq, iMulQ_eq, iNegQ_eq, lenQ_eq, nthQ_eq, setQ_eq, appQ_eq, mapQ_eq, allQ_eq, anyQ_eq, dropQ_eq, takeQ_eq, revQ_eq, getDQ_eq, optLQ_eq, brecC]
    all_goals
      cases hq_1 : (okP I n H' H1 h_0.2.1) with
      | false =>
        try dsimp only [cond_false, cond_true]
        all_goals rfl
      | true =>
        try dsimp only [cond_false, cond_true]
        all_goals rfl
noncomputable def copyTo (kd : Nat) (ns : List Ln) (c : AC) : List Nat → AH → List PD :=
  fun e_0 e_1 => List.rec (motive := fun _ => AH → List PD) (fun e_1 => []) (fun h_0 t_0 ih e_1 => (List.rec (motive := fun _ => List PD) [] (fun h_2069 H1_2070 _ => (Bool.rec (motive := fun _ => List PD) (ih H1_2070) ((kd, [h_0], ns) :: (ih H1_2070)) (sameA c h_2069))) e_1)) e_0 e_1
theorem copyTo_def (kd : Nat) (ns : List Ln) (c : AC) (e_0 : List Nat) (e_1 : AH) : copyTo kd ns c e_0 e_1 = (match e_0, e_1 with
  | i :: I, h :: H1 => bif sameA c h then (kd, [i], ns) :: copyTo kd ns c I H1 else copyTo kd ns c I H1
  | _, _ => []) := by
  cases e_0 with
  | nil =>
    show [] = _
    try simp only [iAddQ_eq, iMulQ_eq, iNegQ_eq, lenQ_eq, nthQ_eq, setQ_eq, appQ_eq, mapQ_eq, allQ_eq, anyQ_eq, dropQ_eq, takeQ_eq, revQ_eq, getDQ_eq, optLQ_eq, brecC]
    all_goals rfl
  | cons h_0 t_0 =>
    show (List.rec (motive := fun _ => List PD) [] (fun h_2071 H1_2072 _ => (Bool.rec (motive := fun _ => List PD) (copyTo kd ns c t_0 H1_2072) ((kd, [h_0], ns) :: (copyTo kd ns c t_0 H1_2072)) (sameA c h_2071))) e_1) = _
    try simp only [iAddQ_eq, iMulQ_eq, iNegQ_eq, lenQ_eq, nthQ_eq, setQ_eq, appQ_eq, mapQ_eq, allQ_eq, anyQ_eq, dropQ_eq, takeQ_eq, revQ_eq, getDQ_eq, optLQ_eq, brecC]
    all_goals
      cases e_1 with
      | nil =>
        try dsimp only [cond_false, cond_true]
        all_goals rfl
      | cons y_2073 y_2074 =>
        try dsimp only [cond_false, cond_true]
        all_goals
          cases hq_2 : (sameA c y_2073) with
          | false =>
            try dsimp only [cond_false, cond_true]
            all_goals rfl
          | true =>
            try dsimp only [cond_false, cond_true]
            all_goals rfl
noncomputable def prCopy (I : List Nat) (H' H1 : AH) : List PD → List PD :=
  fun e_0 => List.rec (motive := fun _ => List PD) [] (fun h_0 t_0 ih => (List.rec (motive := fun _ => List PD) (ih) (fun q_2075 x_2076 _ => (List.rec (motive := fun _ => List PD) (Bool.rec (motive := fun _ => List PD) (ih) (appQ (copyTo h_0.1 h_0.2.2 (getC H' (ixA q_2075 I)) I H1) (ih)) (memN q_2075 I)) (fun x_2077 x_2078 _ => (ih)) x_2076)) h_0.2.1)) e_0 
theorem prCopy_def (I : List Nat) (H' H1 : AH) (e_0 : List PD) : prCopy I H' H1 e_0 = (match e_0 with
  | [] => []
  | p :: r => match p.2.1 with
    | [q] => bif memN q I then copyTo p.1 p.2.2 (getC H' (ixA q I)) I H1 ++ prCopy I H' H1 r else prCopy I H' H1 r
    | _ => prCopy I H' H1 r) := by
  cases e_0 with
  | nil =>
    show [] = _
    try simp only [iAddQ_eq, iMulQ_eq, iNegQ_eq, lenQ_eq, nthQ_eq, setQ_eq, appQ_eq, mapQ_eq, allQ_eq, anyQ_eq, dropQ_eq, takeQ_eq, revQ_eq, getDQ_eq, optLQ_eq, brecC]
    all_goals rfl
  | cons h_0 t_0 =>
    show (List.rec (motive := fun _ => List PD) (prCopy I H' H1 t_0) (fun q_2079 x_2080 _ => (List.rec (motive := fun _ => List PD) (Bool.rec (motive := fun _ => List PD) (prCopy I H' H1 t_0) (appQ (copyTo h_0.1 h_0.2.2 (getC H' (ixA q_2079 I)) I H1) (prCopy I H' H1 t_0)) (memN q_2079 I)) (fun x_2081 x_2082 _ => (prCopy I H' H1 t_0)) x_2080)) h_0.2.1) = _
    try simp only [iAddQ_eq, iMulQ_eq, iNegQ_eq, lenQ_eq, nthQ_eq, setQ_eq, appQ_eq, mapQ_eq, allQ_eq, anyQ_eq, dropQ_eq, takeQ_eq, revQ_eq, getDQ_eq, optLQ_eq, brecC]
    all_goals
      cases hq_1 : h_0.2.1 with
      | nil =>
        try dsimp only [cond_false, cond_true]
        all_goals rfl
      | cons y_2083 y_2084 =>
        try dsimp only [cond_false, cond_true]
        all_goals
          cases y_2084 with
          | nil =>
            try dsimp only [cond_false, cond_true]
            all_goals
              cases hq_3 : (memN y_2083 I) with
              | false =>
                try dsimp only [cond_false, cond_true]
                all_goals rfl
              | true =>
                try dsimp only [cond_false, cond_true]
                all_goals rfl
          | cons y_2085 y_2086 =>
            try dsimp only [cond_false, cond_true]
            all_goals rfl
noncomputable def prSb (θ : Th) (pr : List PD) : List PD :=
  (mapQ (fun p => (p.1, p.2.1, (mapQ (sbL θ) p.2.2))) pr)
theorem prSb_def (θ : Th) (pr : List PD) : prSb θ pr = pr.map (fun p => (p.1, p.2.1, p.2.2.map (sbL θ))) := by
  show (mapQ (fun p => (p.1, p.2.1, (mapQ (sbL θ) p.2.2))) pr) = _
  try simp only [iAddQ_eq, iMulQ_eq, iNegQ_eq, lenQ_eq, nthQ_eq, setQ_eq, appQ_eq, mapQ_eq, allQ_eq, anyQ_eq, dropQ_eq, takeQ_eq, revQ_eq, getDQ_eq, optLQ_eq, brecC]
  all_goals rfl
noncomputable def outK (k : KK) (pc : Nat) (rest : List AV) (lv : AL) (A : AH) (pr : List PD) (nx : Nat) (ca cb : Nat) (θo : Th) (I : List Nat) (H H' : AH) (pnx : Nat) (o : Ot) (tab2 : Tb) (fs2 : List Ln) (H1 : AH) : Bool :=
  (Bool.rec (motive := fun _ => Bool) false (Bool.rec (motive := fun _ => Bool) false (Bool.rec (motive := fun _ => Bool) false (k (Nat.add pc (nat_lit 3)) (appQ (mapQ (sbV θo) o.1.2.2.2.1) rest) lv (aPaste A I (mapQ (resC nx (lenQ I) H) H1)) (appQ (prSame I (lenQ A) H' H1 pr) (appQ (prCopy I H' H1 pr) (prBack I (lenQ A) (lenQ H1) (prSb θo o.1.2.2.2.2.2)))) (Nat.add (Nat.add nx (lenQ I)) (Nat.sub o.1.1 pnx)) tab2 fs2 (Nat.add ca o.2.1) (Nat.add cb o.2.2)) (Bool.rec (motive := fun _ => Bool) (Bool.rec (motive := fun _ => Bool) false (Nat.blt (Nat.add (lenQ A) (lenQ H1)) sIdx) (allQ (okCA (lenQ A)) A)) true (Nat.beq (lenQ H1) (lenQ I)))) (allQ (okCA (lenQ H1)) H1)) (Nat.ble (lenQ I) (lenQ H1)))
theorem outK_def (k : KK) (pc : Nat) (rest : List AV) (lv : AL) (A : AH) (pr : List PD) (nx : Nat) (ca cb : Nat) (θo : Th) (I : List Nat) (H H' : AH) (pnx : Nat) (o : Ot) (tab2 : Tb) (fs2 : List Ln) (H1 : AH) : outK k pc rest lv A pr nx ca cb θo I H H' pnx o tab2 fs2 H1 = bif Nat.ble I.length H1.length then (bif H1.all (okCA H1.length) then (bif (bif Nat.beq H1.length I.length then true else bif A.all (okCA A.length) then Nat.blt (Nat.add A.length H1.length) sIdx else false) then k (Nat.add pc 3) (o.1.2.2.2.1.map (sbV θo) ++ rest) lv (aPaste A I (H1.map (resC nx I.length H))) (prSame I A.length H' H1 pr ++ (prCopy I H' H1 pr ++ prBack I A.length H1.length (prSb θo o.1.2.2.2.2.2))) (Nat.add (Nat.add nx I.length) (Nat.sub o.1.1 pnx)) tab2 fs2 (Nat.add ca o.2.1) (Nat.add cb o.2.2) else false) else false) else false := by
  show (Bool.rec (motive := fun _ => Bool) false (Bool.rec (motive := fun _ => Bool) false (Bool.rec (motive := fun _ => Bool) false (k (Nat.add pc (nat_lit 3)) (appQ (mapQ (sbV θo) o.1.2.2.2.1) rest) lv (aPaste A I (mapQ (resC nx (lenQ I) H) H1)) (appQ (prSame I (lenQ A) H' H1 pr) (appQ (prCopy I H' H1 pr) (prBack I (lenQ A) (lenQ H1) (prSb θo o.1.2.2.2.2.2)))) (Nat.add (Nat.add nx (lenQ I)) (Nat.sub o.1.1 pnx)) tab2 fs2 (Nat.add ca o.2.1) (Nat.add cb o.2.2)) (Bool.rec (motive := fun _ => Bool) (Bool.rec (motive := fun _ => Bool) false (Nat.blt (Nat.add (lenQ A) (lenQ H1)) sIdx) (allQ (okCA (lenQ A)) A)) true (Nat.beq (lenQ H1) (lenQ I)))) (allQ (okCA (lenQ H1)) H1)) (Nat.ble (lenQ I) (lenQ H1))) = _
  try simp only [iAddQ_eq, iMulQ_eq, iNegQ_eq, lenQ_eq, nthQ_eq, setQ_eq, appQ_eq, mapQ_eq, allQ_eq, anyQ_eq, dropQ_eq, takeQ_eq, revQ_eq, getDQ_eq, optLQ_eq, brecC]
  all_goals
    cases hq_1 : (Nat.ble I.length H1.length) with
    | false =>
      try dsimp only [cond_false, cond_true]
      all_goals rfl
    | true =>
      try dsimp only [cond_false, cond_true]
      all_goals
        cases hq_2 : (H1.all ((okCA H1.length))) with
        | false =>
          try dsimp only [cond_false, cond_true]
          all_goals rfl
        | true =>
          try dsimp only [cond_false, cond_true]
          all_goals
            cases hq_3 : ((bif (Nat.beq H1.length I.length) then true else (bif (A.all ((okCA A.length))) then (Nat.blt ((Nat.add A.length H1.length)) sIdx) else false))) with
            | false =>
              try dsimp only [cond_false, cond_true]
              all_goals rfl
            | true =>
              try dsimp only [cond_false, cond_true]
              all_goals rfl
noncomputable def outA (k : KK) (pc : Nat) (rest : List AV) (lv : AL) (A : AH) (pr : List PD) (nx : Nat) (tab : Tb) (fs : List Ln) (ca cb : Nat) (θ : Th) (I : List Nat) (H H' : AH) (pnx : Nat) (o : Ot) : Bool :=
  (Option.rec (motive := fun _ => Bool) true (fun x_2087 => (Prod.rec (motive := fun _ => Bool) (fun tab1_2088 fs1_2089 => (Option.rec (motive := fun _ => Bool) true (fun x_2090 => (Prod.rec (motive := fun _ => Bool) (fun tab2_2091 fs2_2092 => (outK k pc rest lv A pr nx ca cb (thN θ (Nat.add nx (lenQ I)) pnx) I H H' pnx o tab2_2091 fs2_2092 (mapQ (sbC (thN θ (Nat.add nx (lenQ I)) pnx)) o.1.2.2.2.2.1))) x_2090)) (addF' (thN θ (Nat.add nx (lenQ I)) pnx) o.1.2.2.1 (tbO tab1_2088 (Nat.add nx (lenQ I)) pnx o.1.1 o.1.2.1) fs1_2089))) x_2087)) (addT' θ pnx o.1.2.1 tab fs))
theorem outA_def (k : KK) (pc : Nat) (rest : List AV) (lv : AL) (A : AH) (pr : List PD) (nx : Nat) (tab : Tb) (fs : List Ln) (ca cb : Nat) (θ : Th) (I : List Nat) (H H' : AH) (pnx : Nat) (o : Ot) : outA k pc rest lv A pr nx tab fs ca cb θ I H H' pnx o = (match addT' θ pnx o.1.2.1 tab fs with
  | none => true
  | some (tab1, fs1) => match addF' (thN θ (Nat.add nx I.length) pnx) o.1.2.2.1 (tbO tab1 (Nat.add nx I.length) pnx o.1.1 o.1.2.1) fs1 with
    | none => true
    | some (tab2, fs2) => outK k pc rest lv A pr nx ca cb (thN θ (Nat.add nx I.length) pnx) I H H' pnx o tab2 fs2 (o.1.2.2.2.2.1.map (sbC (thN θ (Nat.add nx I.length) pnx)))) := by
  show (Option.rec (motive := fun _ => Bool) true (fun x_2087 => (Prod.rec (motive := fun _ => Bool) (fun tab1_2088 fs1_2089 => (Option.rec (motive := fun _ => Bool) true (fun x_2090 => (Prod.rec (motive := fun _ => Bool) (fun tab2_2091 fs2_2092 => (outK k pc rest lv A pr nx ca cb (thN θ (Nat.add nx (lenQ I)) pnx) I H H' pnx o tab2_2091 fs2_2092 (mapQ (sbC (thN θ (Nat.add nx (lenQ I)) pnx)) o.1.2.2.2.2.1))) x_2090)) (addF' (thN θ (Nat.add nx (lenQ I)) pnx) o.1.2.2.1 (tbO tab1_2088 (Nat.add nx (lenQ I)) pnx o.1.1 o.1.2.1) fs1_2089))) x_2087)) (addT' θ pnx o.1.2.1 tab fs)) = _
  try simp only [iAddQ_eq, iMulQ_eq, iNegQ_eq, lenQ_eq, nthQ_eq, setQ_eq, appQ_eq, mapQ_eq, allQ_eq, anyQ_eq, dropQ_eq, takeQ_eq, revQ_eq, getDQ_eq, optLQ_eq, brecC]
  all_goals
    cases hq_1 : (addT' θ pnx o.1.2.1 tab fs) with
    | none =>
      try dsimp only [cond_false, cond_true]
      all_goals rfl
    | some y_2093 =>
      try dsimp only [cond_false, cond_true]
      all_goals
        cases y_2093 with
        | mk y_2094 y_2095 =>
          try dsimp only [cond_false, cond_true]
          all_goals
            cases hq_3 : (addF' ((thN θ ((Nat.add nx I.length)) pnx)) o.1.2.2.1 ((tbO y_2094 ((Nat.add nx I.length)) pnx o.1.1 o.1.2.1)) y_2095) with
            | none =>
              try dsimp only [cond_false, cond_true]
              all_goals rfl
            | some y_2096 =>
              try dsimp only [cond_false, cond_true]
              all_goals
                cases y_2096 with
                | mk y_2097 y_2098 =>
                  try dsimp only [cond_false, cond_true]
                  all_goals rfl
noncomputable def outAll (k : Ot → Bool) : List Ot → Bool :=
  fun e_0 => List.rec (motive := fun _ => Bool) true (fun h_0 t_0 ih => (Bool.rec (motive := fun _ => Bool) false (ih) (k h_0))) e_0 
theorem outAll_def (k : Ot → Bool) (e_0 : List Ot) : outAll k e_0 = (match e_0 with
  | [] => true
  | o :: r => bif k o then outAll k r else false) := by
  cases e_0 with
  | nil =>
    show true = _
    try simp only [iAddQ_eq, iMulQ_eq, iNegQ_eq, lenQ_eq, nthQ_eq, setQ_eq, appQ_eq, mapQ_eq, allQ_eq, anyQ_eq, dropQ_eq, takeQ_eq, revQ_eq, getDQ_eq, optLQ_eq, brecC]
    all_goals rfl
  | cons h_0 t_0 =>
    show (Bool.rec (motive := fun _ => Bool) false (outAll k t_0) (k h_0)) = _
    try simp only [iAddQ_eq, iMulQ_eq, iNegQ_eq, lenQ_eq, nthQ_eq, setQ_eq, appQ_eq, mapQ_eq, allQ_eq, anyQ_eq, dropQ_eq, takeQ_eq, revQ_eq, getDQ_eq, optLQ_eq, brecC]
    all_goals
      cases hq_1 : (k h_0) with
      | false =>
        try dsimp only [cond_false, cond_true]
        all_goals rfl
      | true =>
        try dsimp only [cond_false, cond_true]
        all_goals rfl
noncomputable def oneCt (k : KK) (pc : Nat) (as' : List AV) (H : AH) (pr' : List PD) (rest : List AV) (lv : AL) (A : AH) (pr : List PD) (nx : Nat) (tab : Tb) (fs : List Ln) (ca cb : Nat) (I : List Nat) (C : Ct) (H' : AH) (θ : Th) : Option Bool :=
  (Bool.rec (motive := fun _ => Option Bool) none (some (Bool.rec (motive := fun _ => _) false (outAll (outA k pc rest lv A pr nx tab fs ca cb θ I H H' C.2.2.1.1) C.2.2.2) (loopJ (fun s => (scL (Nat.add nx (lenQ I)) (θ s))) C.2.2.1.1 (nat_lit 0)))) (instP tab fs θ C.2.2.1 as' H' pr'))
theorem oneCt_def (k : KK) (pc : Nat) (as' : List AV) (H : AH) (pr' : List PD) (rest : List AV) (lv : AL) (A : AH) (pr : List PD) (nx : Nat) (tab : Tb) (fs : List Ln) (ca cb : Nat) (I : List Nat) (C : Ct) (H' : AH) (θ : Th) : oneCt k pc as' H pr' rest lv A pr nx tab fs ca cb I C H' θ = bif instP tab fs θ C.2.2.1 as' H' pr' then some (bif loopJ (fun s => scL (Nat.add nx I.length) (θ s)) C.2.2.1.1 0 then outAll (outA k pc rest lv A pr nx tab fs ca cb θ I H H' C.2.2.1.1) C.2.2.2 else false) else none := by
  show (Bool.rec (motive := fun _ => Option Bool) none (some (Bool.rec (motive := fun _ => _) false (outAll (outA k pc rest lv A pr nx tab fs ca cb θ I H H' C.2.2.1.1) C.2.2.2) (loopJ (fun s => (scL (Nat.add nx (lenQ I)) (θ s))) C.2.2.1.1 (nat_lit 0)))) (instP tab fs θ C.2.2.1 as' H' pr')) = _
  try simp only [iAddQ_eq, iMulQ_eq, iNegQ_eq, lenQ_eq, nthQ_eq, setQ_eq, appQ_eq, mapQ_eq, allQ_eq, anyQ_eq, dropQ_eq, takeQ_eq, revQ_eq, getDQ_eq, optLQ_eq, brecC]
  all_goals
    cases hq_1 : (instP tab fs θ C.2.2.1 as' H' pr') with
    | false =>
      try dsimp only [cond_false, cond_true]
      all_goals rfl
    | true =>
      try dsimp only [cond_false, cond_true]
      all_goals rfl
noncomputable def withFO (θ : Un) (k : Th → Option Bool) : Option Bool :=
  (Prod.rec (motive := fun _ => Option Bool) (fun x_2099 x_2100 => (Prod.rec (motive := fun _ => Option Bool) (fun f_2101 x_2102 => (k f_2101)) x_2100)) (balF (nat_lit 9) θ.2))
theorem withFO_def (θ : Un) (k : Th → Option Bool) : withFO θ k = (match balF 9 θ.2 with
  | (_, f, _) => k f) := by
  show (Prod.rec (motive := fun _ => Option Bool) (fun x_2099 x_2100 => (Prod.rec (motive := fun _ => Option Bool) (fun f_2101 x_2102 => (k f_2101)) x_2100)) (balF (nat_lit 9) θ.2)) = _
  all_goals
    cases hq_1 : (balF 9 θ.2) with
    | mk y_2103 y_2104 =>
      try dsimp only [cond_false, cond_true]
      all_goals
        cases y_2104 with
        | mk y_2105 y_2106 =>
          try dsimp only [cond_false, cond_true]
          all_goals rfl
noncomputable def tryCt (k : KK) (pc : Nat) (as' : List AV) (H : AH) (pr' : List PD) (rest : List AV) (lv : AL) (A : AH) (pr : List PD) (nx : Nat) (tab : Tb) (fs : List Ln) (ca cb : Nat) (I : List Nat) (C : Ct) (H' : AH) : Option Bool :=
  (withFO (thOf tab fs C.2.2.1 as' H' pr') (oneCt k pc as' H pr' rest lv A pr nx tab fs ca cb I C H'))
theorem tryCt_def (k : KK) (pc : Nat) (as' : List AV) (H : AH) (pr' : List PD) (rest : List AV) (lv : AL) (A : AH) (pr : List PD) (nx : Nat) (tab : Tb) (fs : List Ln) (ca cb : Nat) (I : List Nat) (C : Ct) (H' : AH) : tryCt k pc as' H pr' rest lv A pr nx tab fs ca cb I C H' = withFO (thOf tab fs C.2.2.1 as' H' pr') (oneCt k pc as' H pr' rest lv A pr nx tab fs ca cb I C H') := by
  show (withFO (thOf tab fs C.2.2.1 as' H' pr') (oneCt k pc as' H pr' rest lv A pr nx tab fs ca cb I C H')) = _
  all_goals rfl
noncomputable def callCt (k : KK) (pc a : Nat) (as' : List AV) (H : AH) (pr' : List PD) (rest : List AV) (lv : AL) (A : AH) (pr : List PD) (nx : Nat) (tab : Tb) (fs : List Ln) (ca cb : Nat) (I : List Nat) : List Ct → Bool :=
  fun e_0 => List.rec (motive := fun _ => Bool) false (fun h_0 t_0 ih => (Bool.rec (motive := fun _ => Bool) (ih) (Option.rec (motive := fun _ => Bool) (ih) (fun b_2107 => b_2107) (tryCt k pc as' H pr' rest lv A pr nx tab fs ca cb I h_0 (convH nx (nat_lit 0) h_0.2.2.1.2.2.2.2.1 H))) (Nat.beq h_0.1 a))) e_0 
theorem callCt_def (k : KK) (pc a : Nat) (as' : List AV) (H : AH) (pr' : List PD) (rest : List AV) (lv : AL) (A : AH) (pr : List PD) (nx : Nat) (tab : Tb) (fs : List Ln) (ca cb : Nat) (I : List Nat) (e_0 : List Ct) : callCt k pc a as' H pr' rest lv A pr nx tab fs ca cb I e_0 = (match e_0 with
  | [] => false
  | C :: r => bif Nat.beq C.1 a then (match tryCt k pc as' H pr' rest lv A pr nx tab fs ca cb I C (convH nx 0 C.2.2.1.2.2.2.2.1 H) with
    | some b => b
    | none => callCt k pc a as' H pr' rest lv A pr nx tab fs ca cb I r) else callCt k pc a as' H pr' rest lv A pr nx tab fs ca cb I r) := by
  cases e_0 with
  | nil =>
    show false = _
    try simp only [iAddQ_eq, iMulQ_eq, iNegQ_eq, lenQ_eq, nthQ_eq, setQ_eq, appQ_eq, mapQ_eq, allQ_eq, anyQ_eq, dropQ_eq, takeQ_eq, revQ_eq, getDQ_eq, optLQ_eq, brecC]
    all_goals rfl
  | cons h_0 t_0 =>
    show (Bool.rec (motive := fun _ => Bool) (callCt k pc a as' H pr' rest lv A pr nx tab fs ca cb I t_0) (Option.rec (motive := fun _ => Bool) (callCt k pc a as' H pr' rest lv A pr nx tab fs ca cb I t_0) (fun b_2108 => b_2108) (tryCt k pc as' H pr' rest lv A pr nx tab fs ca cb I h_0 (convH nx (nat_lit 0) h_0.2.2.1.2.2.2.2.1 H))) (Nat.beq h_0.1 a)) = _
    try simp only [iAddQ_eq, iMulQ_eq, iNegQ_eq, lenQ_eq, nthQ_eq, setQ_eq, appQ_eq, mapQ_eq, allQ_eq, anyQ_eq, dropQ_eq, takeQ_eq, revQ_eq, getDQ_eq, optLQ_eq, brecC]
    all_goals
      cases hq_1 : (Nat.beq h_0.1 a) with
      | false =>
        try dsimp only [cond_false, cond_true]
        all_goals rfl
      | true =>
        try dsimp only [cond_false, cond_true]
        all_goals
          cases hq_2 : (tryCt k pc as' H pr' rest lv A pr nx tab fs ca cb I h_0 ((convH nx 0 h_0.2.2.1.2.2.2.2.1 H))) with
          | none =>
            try dsimp only [cond_false, cond_true]
            all_goals rfl
          | some y_2109 =>
            try dsimp only [cond_false, cond_true]
            all_goals rfl
noncomputable def isClsA (me : ME) (as : List AV) (A : AH) : Bool := match mKd me, as with
  | 0, .inr (.inl (some q)) :: _ => match A[q]? with
    | some (.inl (ci, _)) => bif Nat.beq ci (mOw me) then Nat.blt ci 13 else false
    | _ => false
  | 1, .inr (.inl (some _)) :: _ => true
  | 2, _ => true
  | _, _ => false
noncomputable def g7 (env : List Ct) (k : KK) (i : Instr) (a b pc : Nat) (st : List AV) (lv : AL) (A : AH) (pr : List PD) (nx : Nat) (tab : Tb) (fs : List Ln) (ca cb : Nat) : Bool :=
  bif isCall i then (match meths[a]? with
  | none => false
  | some me => bif Nat.ble b st.length then (bif Nat.ble (((st.drop b).map catA).sum) 8 then (bif (st.drop b).all (okVA A.length) then
    (fun (as : List AV) => bif isClsA me as A then (match aCut A as with
    | none => false
    | some I => callCt k pc a (as.map (mpV (fun j => ixA j I))) (aSubH A I) (prIn I pr) (st.drop b) lv A pr nx tab fs ca cb I env) else false) ((st.take b).reverse) else false) else false) else false) else false
abbrev FN : Type := Option AV → AH → List PD → Tb → List Ln → Nat → Nat → Bool
noncomputable def g6 (fin : FN) (i : Instr) (st : List AV) (A : AH) (pr : List PD) (tab : Tb) (fs : List Ln) (ca cb : Nat) : Bool := match i with
  | .ireturn => match st with
    | [.inl (false, e)] => fin (some (.inl (false, e))) A pr tab fs ca cb
    | _ => false
  | .lreturn => match st with
    | [.inl (true, e)] => fin (some (.inl (true, e))) A pr tab fs ca cb
    | _ => false
  | .return_ => match st with
    | [] => fin none A pr tab fs ca cb
    | _ => false
  | _ => false
noncomputable def st0 (i : Instr) (n a : Nat) (k : KK) (st : List AV) (lv : AL) (A : AH) (pr : List PD) (nx : Nat) (tab : Tb) (fs : List Ln) (ca cb : Nat) : Bool := match g0 i a tab fs lv st with
  | some (rest, r) => pushR nx tab fs r (fun nx tab fs v => k n (v :: rest) lv A pr nx tab fs ca cb)
  | none => false
noncomputable def st1 (i : Instr) (n nL : Nat) (k : KK) (st : List AV) (lv : AL) (A : AH) (pr : List PD) (nx : Nat) (tab : Tb) (fs : List Ln) (ca cb : Nat) : Bool := match i with
  | .iinc x m => (match alGet x lv with
    | some (.inl (false, e)) => bif Nat.blt x nL then (bif leI lo32 m then (bif leI m hi32 then pushR nx tab fs (.inr (false, fitIF tab fs (pluL e m))) (fun nx tab fs v => k n st ((x, v) :: alDel false x lv) A pr nx tab fs ca cb) else false) else false) else false
    | _ => false)
  | _ => match g1 i nL A.length st lv with
    | some (rest, lv') => k n rest lv' A pr nx tab fs ca cb
    | none => false
noncomputable def st3 (scl : Option SL) (i : Instr) (n a b : Nat) (k : KK) (st : List AV) (lv : AL) (A : AH) (pr : List PD) (nx : Nat) (tab : Tb) (fs : List Ln) (ca cb : Nat) : Bool := match i with
  | .aaload => aaL (fun st tab fs => k n st lv A pr nx tab fs ca cb) tab fs A st
  | _ => match g3 scl i a b tab fs A st with
    | some (rest, r) => pushR nx tab fs r (fun nx tab fs v => k n (v :: rest) lv A pr nx tab fs ca cb)
    | none => false
noncomputable def st4 (ini : Bool) (o : Nat) (i : Instr) (n a b : Nat) (k : KK) (st : List AV) (lv : AL) (A : AH) (pr : List PD) (nx : Nat) (tab : Tb) (fs : List Ln) (ca cb : Nat) : Bool := match g4 ini o i a b tab fs A pr st with
  | some (rest, A', pr') => k n rest lv A' pr' nx tab fs ca cb
  | none => false
noncomputable def step (scl : Option SL) (ini : Bool) (o nL : Nat) (env : List Ct) (fin : FN) (k : KK) (e : XE) (pc : Nat) (st : List AV) (lv : AL) (A : AH) (pr : List PD) (nx : Nat) (tab : Tb) (fs : List Ln) (ca cb : Nat) : Bool := match e with
  | (i, len, g, a, b, _) => match g with
    | 0 => st0 i (Nat.add pc len) a k st lv A pr nx tab fs ca cb
    | 1 => st1 i (Nat.add pc len) nL k st lv A pr nx tab fs ca cb
    | 2 => g2 (fun t st tab fs => k t st lv A pr nx tab fs ca cb) i pc tab fs st
    | 3 => st3 scl i (Nat.add pc len) a b k st lv A pr nx tab fs ca cb
    | 4 => st4 ini o i (Nat.add pc len) a b k st lv A pr nx tab fs ca cb
    | 5 => match g5 i a tab fs A st with
      | some (rest, A', dc, ds) => bif prB A.length pr then k (Nat.add pc len) rest lv A' pr nx tab fs (Nat.add ca dc) (Nat.add cb ds) else false
      | none => false
    | 6 => g6 fin i st A pr tab fs ca cb
    | 7 => g7 env k i a b pc st lv A pr nx tab fs ca cb
    | _ => false
/-- a hint: at a place, the states that together cover this one (the machine's state stays) -/
abbrev HR : Type := AH × List PD × Nat × Tb × List Ln
abbrev HF : Type := Nat → AL → AH → List PD → Nat → Tb → List Ln → Option (List HR)
/-- a macro: many steps of the machine at once -/
abbrev MR : Type := Nat × AL × AH × List PD × Nat × Tb × List Ln
abbrev MC : Type := Nat → List (List (Option XE)) → Nat → List AV → AL → AH → List PD → Nat → Tb → List Ln → Option MR
/-- hints, macros, where points are (a bit a place), where hints and macros are, how many symbols stay the entry's -/
abbrev HN : Type := HF × MC × Nat × Nat × Nat
noncomputable def isPt (m pc : Nat) : Bool :=
  (Nat.beq (Nat.land (Nat.shiftRight m pc) (nat_lit 1)) (nat_lit 1))
theorem isPt_def (m pc : Nat) : isPt m pc = Nat.beq (Nat.land (Nat.shiftRight m pc) 1) 1 := by
  show (Nat.beq (Nat.land (Nat.shiftRight m pc) (nat_lit 1)) (nat_lit 1)) = _
  all_goals rfl
noncomputable def noF : HF := fun _ _ _ _ _ _ _ => none
noncomputable def noM : MC := fun _ _ _ _ _ _ _ _ _ _ => none
noncomputable def noH : HN := (noF, noM, 0, 0, 0)
noncomputable def macAt (scl : Option SL) (mc : MC) (nL : Nat) (tb : List (List (Option XE))) (pc : Nat) (st : List AV) (lv : AL) (A : AH) (pr : List PD) (nx : Nat) (tab : Tb) (fs : List Ln) : Option MR := match scl with
  | none => mc nL tb pc st lv A pr nx tab fs
  | some _ => none
noncomputable def macG (m : Nat) (scl : Option SL) (mc : MC) (nL : Nat) (tb : List (List (Option XE))) (pc : Nat) (st : List AV) (lv : AL) (A : AH) (pr : List PD) (nx : Nat) (tab : Tb) (fs : List Ln) : Option MR :=
  (Bool.rec (motive := fun _ => Option MR) none (macAt scl mc nL tb pc st lv A pr nx tab fs) (isPt m pc))
theorem macG_def (m : Nat) (scl : Option SL) (mc : MC) (nL : Nat) (tb : List (List (Option XE))) (pc : Nat) (st : List AV) (lv : AL) (A : AH) (pr : List PD) (nx : Nat) (tab : Tb) (fs : List Ln) : macG m scl mc nL tb pc st lv A pr nx tab fs = bif isPt m pc then macAt scl mc nL tb pc st lv A pr nx tab fs else none := by
  show (Bool.rec (motive := fun _ => Option MR) none (macAt scl mc nL tb pc st lv A pr nx tab fs) (isPt m pc)) = _
  try simp only [iAddQ_eq, iMulQ_eq, iNegQ_eq, lenQ_eq, nthQ_eq, setQ_eq, appQ_eq, mapQ_eq, allQ_eq, anyQ_eq, dropQ_eq, takeQ_eq, revQ_eq, getDQ_eq, optLQ_eq, brecC]
  all_goals
    cases hq_1 : (isPt m pc) with
    | false =>
      try dsimp only [cond_false, cond_true]
      all_goals rfl
    | true =>
      try dsimp only [cond_false, cond_true]
      all_goals rfl
noncomputable def hinG (m : Nat) (f : HF) (pc : Nat) (lv : AL) (A : AH) (pr : List PD) (nx : Nat) (tab : Tb) (fs : List Ln) : Option (List HR) :=
  (Bool.rec (motive := fun _ => Option (List HR)) none (f pc lv A pr nx tab fs) (isPt m pc))
theorem hinG_def (m : Nat) (f : HF) (pc : Nat) (lv : AL) (A : AH) (pr : List PD) (nx : Nat) (tab : Tb) (fs : List Ln) : hinG m f pc lv A pr nx tab fs = bif isPt m pc then f pc lv A pr nx tab fs else none := by
  show (Bool.rec (motive := fun _ => Option (List HR)) none (f pc lv A pr nx tab fs) (isPt m pc)) = _
  try simp only [iAddQ_eq, iMulQ_eq, iNegQ_eq, lenQ_eq, nthQ_eq, setQ_eq, appQ_eq, mapQ_eq, allQ_eq, anyQ_eq, dropQ_eq, takeQ_eq, revQ_eq, getDQ_eq, optLQ_eq, brecC]
  all_goals
    cases hq_1 : (isPt m pc) with
    | false =>
      try dsimp only [cond_false, cond_true]
      all_goals rfl
    | true =>
      try dsimp only [cond_false, cond_true]
      all_goals rfl
noncomputable def hAll (k : AH → List PD → Nat → Tb → List Ln → Bool) : List HR → Bool :=
  fun e_0 => List.rec (motive := fun _ => Bool) true (fun h_0 t_0 ih => (Prod.rec (motive := fun _ => Bool) (fun A_2110 x_2111 => (Prod.rec (motive := fun _ => Bool) (fun pr_2112 x_2113 => (Prod.rec (motive := fun _ => Bool) (fun nx_2114 x_2115 => (Prod.rec (motive := fun _ => Bool) (fun tab_2116 fs_2117 => (Bool.rec (motive := fun _ => Bool) false (ih) (k A_2110 pr_2112 nx_2114 tab_2116 fs_2117))) x_2115)) x_2113)) x_2111)) h_0)) e_0 
theorem hAll_def (k : AH → List PD → Nat → Tb → List Ln → Bool) (e_0 : List HR) : hAll k e_0 = (match e_0 with
  | [] => true
  | (A, pr, nx, tab, fs) :: r => bif k A pr nx tab fs then hAll k r else false) := by
  cases e_0 with
  | nil =>
    show true = _
    try simp only [iAddQ_eq, iMulQ_eq, iNegQ_eq, lenQ_eq, nthQ_eq, setQ_eq, appQ_eq, mapQ_eq, allQ_eq, anyQ_eq, dropQ_eq, takeQ_eq, revQ_eq, getDQ_eq, optLQ_eq, brecC]
    all_goals rfl
  | cons h_0 t_0 =>
    show (Prod.rec (motive := fun _ => Bool) (fun A_2118 x_2119 => (Prod.rec (motive := fun _ => Bool) (fun pr_2120 x_2121 => (Prod.rec (motive := fun _ => Bool) (fun nx_2122 x_2123 => (Prod.rec (motive := fun _ => Bool) (fun tab_2124 fs_2125 => (Bool.rec (motive := fun _ => Bool) false (hAll k t_0) (k A_2118 pr_2120 nx_2122 tab_2124 fs_2125))) x_2123)) x_2121)) x_2119)) h_0) = _
    try simp only [iAddQ_eq, iMulQ_eq, iNegQ_eq, lenQ_eq, nthQ_eq, setQ_eq, appQ_eq, mapQ_eq, allQ_eq, anyQ_eq, dropQ_eq, takeQ_eq, revQ_eq, getDQ_eq, optLQ_eq, brecC]
    all_goals
      cases h_0 with
      | mk y_2126 y_2127 =>
        try dsimp only [cond_false, cond_true]
        all_goals
          cases y_2127 with
          | mk y_2128 y_2129 =>
            try dsimp only [cond_false, cond_true]
            all_goals
              cases y_2129 with
              | mk y_2130 y_2131 =>
                try dsimp only [cond_false, cond_true]
                all_goals
                  cases y_2131 with
                  | mk y_2132 y_2133 =>
                    try dsimp only [cond_false, cond_true]
                    all_goals
                      cases hq_5 : (k y_2126 y_2128 y_2130 y_2132 y_2133) with
                      | false =>
                        try dsimp only [cond_false, cond_true]
                        all_goals rfl
                      | true =>
                        try dsimp only [cond_false, cond_true]
                        all_goals rfl
noncomputable def go (scl : Option SL) (ini : Bool) (o nL : Nat) (tb : List (List (Option XE))) (env : List Ct) (pts : List PE) (G : List Ln) (rk : Option Ln) (fin : FN) (hn : HN) : Nat → Bool → KK
  | 0, _ => fun _ _ _ _ _ _ _ _ _ _ => false
  | n + 1, first => fun pc st lv A pr nx tab fs ca cb => bif (bif first then false else isPt hn.2.2.1 pc) then anyPt hn.2.2.2.2 G rk pc st lv A pr tab fs ca cb pts else match macG hn.2.2.2.1 scl hn.2.1 nL tb pc st lv A pr nx tab fs with
    | some (pc', lv', A', pr', nx', tab', fs') => go scl ini o nL tb env pts G rk fin hn n false pc' st lv' A' pr' nx' tab' fs' ca cb
    | none => match tbGet tb pc with
      | some e => (match hinG hn.2.2.2.1 hn.1 pc lv A pr nx tab fs with
        | none => step scl ini o nL env fin (go scl ini o nL tb env pts G rk fin hn n false) e pc st lv A pr nx tab fs ca cb
        | some L => hAll (fun A pr nx tab fs => step scl ini o nL env fin (go scl ini o nL tb env pts G rk fin hn n false) e pc st lv A pr nx tab fs ca cb) L)
      | none => false
