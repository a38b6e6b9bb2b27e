/-! ===== the runner: from a place on, until places that are told, or the end ===== -/
noncomputable def negC (c : Jvm.ClassFile.Cond) : Jvm.ClassFile.Cond := match c with
  | .eq => .ne
  | .ne => .eq
  | .lt => .ge
  | .ge => .lt
  | .gt => .le
  | .le => .gt
noncomputable def asm (c : Jvm.ClassFile.Cond) (tab : Tb) (fs : List Ln) (x y : Ln) : Option (Tb × List Ln) := match c with
  | .lt => addLe tab fs (pluL (subL x y) 1)
  | .ge => addLe tab fs (subL y x)
  | .gt => addLe tab fs (pluL (subL y x) 1)
  | .le => addLe tab fs (subL x y)
  | .eq => match addLe tab fs (subL x y) with
    | some (t, f) => addLe t f (subL y x)
    | none => none
  | .ne => bif le0 tab fs (subL x y) then addLe tab fs (pluL (subL x y) 1) else bif le0 tab fs (subL y x) then addLe tab fs (pluL (subL y x) 1) else some (tab, fs)
noncomputable def cndZ (c : Jvm.ClassFile.Cond) (a b : Int) : Prop := match c with
  | .lt => a < b
  | .ge => b ≤ a
  | .gt => b < a
  | .le => a ≤ b
  | .eq => a = b
  | .ne => a ≠ b
theorem asm_ok {ρ : Nat → Int} {tab : Tb} {fs : List Ln} (ht : tOk ρ tab) (hf : fOk ρ fs) {c : Jvm.ClassFile.Cond} {x y : Ln} (h : cndZ c (ev ρ x) (ev ρ y)) : ∃ tab' fs', asm c tab fs x y = some (tab', fs') ∧ tOk ρ tab' ∧ fOk ρ fs' := by
  have sub : ∀ {t : Tb} {f : List Ln} {a b : Ln}, tOk ρ t → fOk ρ f → ev ρ a ≤ ev ρ b → ∃ tab' fs', addLe t f (subL a b) = some (tab', fs') ∧ tOk ρ tab' ∧ fOk ρ fs' := fun ht hf h => addLe_ok ht hf (by rw [ev_sub]; omega)
  have sub1 : ∀ {t : Tb} {f : List Ln} {a b : Ln}, tOk ρ t → fOk ρ f → ev ρ a < ev ρ b → ∃ tab' fs', addLe t f (pluL (subL a b) 1) = some (tab', fs') ∧ tOk ρ tab' ∧ fOk ρ fs' := fun ht hf h => addLe_ok ht hf (by rw [ev_plu, ev_sub]; omega)
  cases c with
  | lt => exact sub1 ht hf h
  | ge => exact sub ht hf h
  | gt => exact sub1 ht hf h
  | le => exact sub ht hf h
  | eq =>
    have h' : ev ρ x = ev ρ y := h
    obtain ⟨t, f, e, h1, h2⟩ := sub (a := x) (b := y) ht hf (by omega)
    unfold asm
    simp only [e]
    exact sub h1 h2 (by omega)
  | ne =>
    have h' : ev ρ x ≠ ev ρ y := h
    unfold asm
    try dsimp only
    cases h1 : le0 tab fs (subL x y) with
    | true =>
      have q := le0_ok ht hf h1
      rw [ev_sub] at q
      exact sub1 ht hf (by omega)
    | false =>
      cases h2 : le0 tab fs (subL y x) with
      | true =>
        have q := le0_ok ht hf h2
        rw [ev_sub] at q
        exact sub1 ht hf (by omega)
      | false => exact ⟨tab, fs, rfl, ht, hf⟩
theorem cnd_iff {c : Jvm.ClassFile.Cond} {x y : Int32} : cnd c x y = true ↔ cndZ c x.toInt y.toInt := by
  cases c <;> simp only [cnd, cndZ, decide_eq_true_eq, Int32.lt_iff_toInt_lt, Int32.le_iff_toInt_le, Int32.toInt_inj, ne_eq]
theorem cndZ_neg {c : Jvm.ClassFile.Cond} {a b : Int} (h : ¬ cndZ c a b) : cndZ (negC c) a b := by
  cases c <;> simp only [cndZ, negC] at h ⊢ <;> omega
theorem cnd_neg {c : Jvm.ClassFile.Cond} {x y : Int32} (h : cnd c x y = false) : cndZ (negC c) x.toInt y.toInt := cndZ_neg fun q => by rw [cnd_iff.mpr q] at h; cases h
theorem cmpZ_cnd {c : Jvm.ClassFile.Cond} {a b : Int} : cndZ c (cmpZ a b).toInt (0 : Int32).toInt ↔ cndZ c a b := by
  have e0 : (0 : Int32).toInt = 0 := rfl
  have e1 : (1 : Int32).toInt = 1 := rfl
  have e2 : (-1 : Int32).toInt = -1 := rfl
  unfold cmpZ
  rw [e0]
  by_cases h1 : b < a
  · rw [if_pos h1, e1]
    cases c <;> simp only [cndZ] <;> omega
  · rw [if_neg h1]
    by_cases h2 : a = b
    · subst h2
      rw [if_pos rfl, e0]
      cases c <;> simp [cndZ]
    · rw [if_neg h2, e2]
      cases c <;> simp only [cndZ] <;> omega
noncomputable def jmpA (pc : Nat) (off : Int) : Option Nat := match Int.add (.ofNat pc) off with
  | .ofNat t => some t
  | .negSucc _ => none
theorem jmpA_ok {pc t : Nat} {off : Int} (h : jmpA pc off = some t) : jmp pc off = some t := by
  unfold jmpA at h
  split at h
  · rename_i t' he
    cases h
    have he' : (pc : Int) + off = (t : Int) := he
    unfold jmp
    rw [he', if_pos (Int.natCast_nonneg t)]
    rfl
  · cases h
-- points, contracts
abbrev PE : Type := Nat × List Nat × Pt × List Ln × Option Ln × Nat × Nat
abbrev Ot : Type := Pt × Nat × Nat
abbrev Ct : Type := Nat × Nat × Pt × List Ot
noncomputable def hasPc (pc : Nat) : List PE → Bool
  | [] => false
  | p :: r => bif Nat.beq pc p.1 then true else hasPc pc r
noncomputable def lvAt (lv : AL) : List Nat → Option (List AV) :=
  fun e_0 => List.rec (motive := fun _ => Option (List AV)) (some []) (fun h_0 t_0 ih => (Option.rec (motive := fun _ => Option (List AV)) none (fun a_1742 => (Option.rec (motive := fun _ => Option (List AV)) none (fun q_1743 => (some (a_1742 :: q_1743))) (ih))) (alGet h_0 lv))) e_0 
theorem lvAt_def (lv : AL) (e_0 : List Nat) : lvAt lv e_0 = (match e_0 with
  | [] => some []
  | k :: r => match alGet k lv with
    | some a => (match lvAt lv r with
      | some q => some (a :: q)
      | none => none)
    | none => none) := by
  cases e_0 with
  | nil =>
    show (some []) = _
    try simp only [iAddQ_eq, iMulQ_eq, iNegQ_eq, lenQ_eq, nthQ_eq, setQ_eq, appQ_eq, mapQ_eq, allQ_eq, anyQ_eq, dropQ_eq, takeQ_eq, revQ_eq, getDQ_eq, optLQ_eq, brecC]
    all_goals rfl
  | cons h_0 t_0 =>
    show (Option.rec (motive := fun _ => Option (List AV)) none (fun a_1744 => (Option.rec (motive := fun _ => Option (List AV)) none (fun q_1745 => (some (a_1744 :: q_1745))) (lvAt lv t_0))) (alGet h_0 lv)) = _
    try simp only [iAddQ_eq, iMulQ_eq, iNegQ_eq, lenQ_eq, nthQ_eq, setQ_eq, appQ_eq, mapQ_eq, allQ_eq, anyQ_eq, dropQ_eq, takeQ_eq, revQ_eq, getDQ_eq, optLQ_eq, brecC]
    all_goals
      cases hq_1 : (alGet h_0 lv) with
      | none =>
        try dsimp only [cond_false, cond_true]
        all_goals rfl
      | some y_1746 =>
        try dsimp only [cond_false, cond_true]
        all_goals
          cases hq_2 : (lvAt lv t_0) with
          | none =>
            try dsimp only [cond_false, cond_true]
            all_goals rfl
          | some y_1747 =>
            try dsimp only [cond_false, cond_true]
            all_goals rfl
noncomputable def rkLt (tab : Tb) (fs : List Ln) (θ : Th) (rk r : Option Ln) : Bool :=
  (Option.rec (motive := fun _ => Bool) true (fun r_1748 => (Option.rec (motive := fun _ => Bool) true (fun q_1749 => (le0 tab fs (pluL (subL (sbL θ r_1748) q_1749) (.ofNat (nat_lit 1))))) rk)) r)
theorem rkLt_def (tab : Tb) (fs : List Ln) (θ : Th) (rk r : Option Ln) : rkLt tab fs θ rk r = (match r with
  | none => true
  | some r => match rk with
    | none => true
    | some q => le0 tab fs (pluL (subL (sbL θ r) q) 1)) := by
  show (Option.rec (motive := fun _ => Bool) true (fun r_1748 => (Option.rec (motive := fun _ => Bool) true (fun q_1749 => (le0 tab fs (pluL (subL (sbL θ r_1748) q_1749) (.ofNat (nat_lit 1))))) rk)) r) = _
  all_goals
    cases r with
    | none =>
      try dsimp only [cond_false, cond_true]
      all_goals rfl
    | some y_1750 =>
      try dsimp only [cond_false, cond_true]
      all_goals
        cases rk with
        | none =>
          try dsimp only [cond_false, cond_true]
          all_goals rfl
        | some y_1751 =>
          try dsimp only [cond_false, cond_true]
          all_goals rfl
noncomputable def uniG  : Un → List Ln → List Ln → Un :=
  fun θ e_0 e_1 => List.rec (motive := fun _ => Un → List Ln → Un) (fun θ e_1 => θ) (fun h_0 t_0 ih θ e_1 => (List.rec (motive := fun _ => Un) θ (fun a_1752 q_1753 _ => (ih (uniL θ h_0 a_1752) q_1753)) e_1)) e_0 θ e_1
theorem uniG_def  (θ : Un) (e_0 : List Ln) (e_1 : List Ln) : uniG  θ e_0 e_1 = (match e_0, e_1 with
  | p :: r, a :: q => uniG (uniL θ p a) r q
  | _, _ => θ) := by
  cases e_0 with
  | nil =>
    show θ = _
    try simp only [iAddQ_eq, iMulQ_eq, iNegQ_eq, lenQ_eq, nthQ_eq, setQ_eq, appQ_eq, mapQ_eq, allQ_eq, anyQ_eq, dropQ_eq, takeQ_eq, revQ_eq, getDQ_eq, optLQ_eq, brecC]
    all_goals rfl
  | cons h_0 t_0 =>
    show (List.rec (motive := fun _ => Un) θ (fun a_1754 q_1755 _ => (uniG (uniL θ h_0 a_1754) t_0 q_1755)) e_1) = _
    try simp only [iAddQ_eq, iMulQ_eq, iNegQ_eq, lenQ_eq, nthQ_eq, setQ_eq, appQ_eq, mapQ_eq, allQ_eq, anyQ_eq, dropQ_eq, takeQ_eq, revQ_eq, getDQ_eq, optLQ_eq, brecC]
    all_goals
      cases e_1 with
      | nil =>
        try dsimp only [cond_false, cond_true]
        all_goals rfl
      | cons y_1756 y_1757 =>
        try dsimp only [cond_false, cond_true]
        all_goals rfl
noncomputable def chkG (tab : Tb) (fs : List Ln) (θ : Th) : List Ln → List Ln → Bool :=
  fun e_0 e_1 => List.rec (motive := fun _ => List Ln → Bool) (fun e_1 => (List.rec (motive := fun _ => Bool) true (fun x_1758 x_1759 _ => false) e_1)) (fun h_0 t_0 ih e_1 => (List.rec (motive := fun _ => Bool) false (fun a_1760 q_1761 _ => (Bool.rec (motive := fun _ => Bool) false (ih q_1761) (eqL tab fs (sbL θ h_0) a_1760))) e_1)) e_0 e_1
theorem chkG_def (tab : Tb) (fs : List Ln) (θ : Th) (e_0 : List Ln) (e_1 : List Ln) : chkG tab fs θ e_0 e_1 = (match e_0, e_1 with
  | [], [] => true
  | p :: r, a :: q => bif eqL tab fs (sbL θ p) a then chkG tab fs θ r q else false
  | _, _ => false) := by
  cases e_0 with
  | nil =>
    show (List.rec (motive := fun _ => Bool) true (fun x_1762 x_1763 _ => false) e_1) = _
    try simp only [iAddQ_eq, iMulQ_eq, iNegQ_eq, lenQ_eq, nthQ_eq, setQ_eq, appQ_eq, mapQ_eq, allQ_eq, anyQ_eq, dropQ_eq, takeQ_eq, revQ_eq, getDQ_eq, optLQ_eq, brecC]
    all_goals
      cases e_1 with
      | nil =>
        try dsimp only [cond_false, cond_true]
        all_goals rfl
      | cons y_1764 y_1765 =>
        try dsimp only [cond_false, cond_true]
        all_goals rfl
  | cons h_0 t_0 =>
    show (List.rec (motive := fun _ => Bool) false (fun a_1766 q_1767 _ => (Bool.rec (motive := fun _ => Bool) false (chkG tab fs θ t_0 q_1767) (eqL tab fs (sbL θ h_0) a_1766))) e_1) = _
    try simp only [iAddQ_eq, iMulQ_eq, iNegQ_eq, lenQ_eq, nthQ_eq, setQ_eq, appQ_eq, mapQ_eq, allQ_eq, anyQ_eq, dropQ_eq, takeQ_eq, revQ_eq, getDQ_eq, optLQ_eq, brecC]
    all_goals
      cases e_1 with
      | nil =>
        try dsimp only [cond_false, cond_true]
        all_goals rfl
      | cons y_1768 y_1769 =>
        try dsimp only [cond_false, cond_true]
        all_goals
          cases hq_3 : (eqL tab fs ((sbL θ h_0)) y_1768) with
          | false =>
            try dsimp only [cond_false, cond_true]
            all_goals rfl
          | true =>
            try dsimp only [cond_false, cond_true]
            all_goals rfl
/-- the numbers carried along: the same symbols, or found equal -/
noncomputable def chkGR (n : Nat) (tab : Tb) (fs : List Ln) (θ : Th) (P G : List Ln) : Bool :=
  (Bool.rec (motive := fun _ => Bool) (chkG tab fs θ P G) true (Bool.rec (motive := fun _ => Bool) false (isSy n (nat_lit 0) G) (isSy n (nat_lit 0) P)))
theorem chkGR_def (n : Nat) (tab : Tb) (fs : List Ln) (θ : Th) (P G : List Ln) : chkGR n tab fs θ P G = bif (bif isSy n 0 P then isSy n 0 G else false) then true else chkG tab fs θ P G := by
  show (Bool.rec (motive := fun _ => Bool) (chkG tab fs θ P G) true (Bool.rec (motive := fun _ => Bool) false (isSy n (nat_lit 0) G) (isSy n (nat_lit 0) P))) = _
  try simp only [iAddQ_eq, iMulQ_eq, iNegQ_eq, lenQ_eq, nthQ_eq, setQ_eq, appQ_eq, mapQ_eq, allQ_eq, anyQ_eq, dropQ_eq, takeQ_eq, revQ_eq, getDQ_eq, optLQ_eq, brecC]
  all_goals
    cases hq_1 : ((bif (isSy n 0 P) then (isSy n 0 G) else false)) with
    | false =>
      try dsimp only [cond_false, cond_true]
      all_goals rfl
    | true =>
      try dsimp only [cond_false, cond_true]
      all_goals rfl
noncomputable def onePt (n : Nat) (G : List Ln) (rk : Option Ln) (A : AH) (pr : List PD) (tab : Tb) (fs : List Ln) (ca cb : Nat) (p : PE) (vs : List AV) (θ : Th) : Bool :=
  (Bool.rec (motive := fun _ => Bool) false (Bool.rec (motive := fun _ => Bool) false (Bool.rec (motive := fun _ => Bool) false (Bool.rec (motive := fun _ => Bool) false (Nat.ble cb p.2.2.2.2.2.2) (Nat.ble ca p.2.2.2.2.2.1)) (rkLt tab fs θ rk p.2.2.2.2.1)) (instPR n tab fs θ p.2.2.1 vs A pr)) (chkGR n tab fs θ p.2.2.2.1 G))
theorem onePt_def (n : Nat) (G : List Ln) (rk : Option Ln) (A : AH) (pr : List PD) (tab : Tb) (fs : List Ln) (ca cb : Nat) (p : PE) (vs : List AV) (θ : Th) : onePt n G rk A pr tab fs ca cb p vs θ = bif chkGR n tab fs θ p.2.2.2.1 G then (bif instPR n tab fs θ p.2.2.1 vs A pr then (bif rkLt tab fs θ rk p.2.2.2.2.1 then (bif Nat.ble ca p.2.2.2.2.2.1 then Nat.ble cb p.2.2.2.2.2.2 else false) else false) else false) else false := by
  show (Bool.rec (motive := fun _ => Bool) false (Bool.rec (motive := fun _ => Bool) false (Bool.rec (motive := fun _ => Bool) false (Bool.rec (motive := fun _ => Bool) false (Nat.ble cb p.2.2.2.2.2.2) (Nat.ble ca p.2.2.2.2.2.1)) (rkLt tab fs θ rk p.2.2.2.2.1)) (instPR n tab fs θ p.2.2.1 vs A pr)) (chkGR n tab fs θ p.2.2.2.1 G)) = _
  try simp only [iAddQ_eq, iMulQ_eq, iNegQ_eq, lenQ_eq, nthQ_eq, setQ_eq, appQ_eq, mapQ_eq, allQ_eq, anyQ_eq, dropQ_eq, takeQ_eq, revQ_eq, getDQ_eq, optLQ_eq, brecC]
  all_goals
    cases hq_1 : (chkGR n tab fs θ p.2.2.2.1 G) with
    | false =>
      try dsimp only [cond_false, cond_true]
      all_goals rfl
    | true =>
      try dsimp only [cond_false, cond_true]
      all_goals
        cases hq_2 : (instPR n tab fs θ p.2.2.1 vs A pr) with
        | false =>
          try dsimp only [cond_false, cond_true]
          all_goals rfl
        | true =>
          try dsimp only [cond_false, cond_true]
          all_goals
            cases hq_3 : (rkLt tab fs θ rk p.2.2.2.2.1) with
            | false =>
              try dsimp only [cond_false, cond_true]
              all_goals rfl
            | true =>
              try dsimp only [cond_false, cond_true]
              all_goals
                cases hq_4 : (Nat.ble ca p.2.2.2.2.2.1) with
                | false =>
                  try dsimp only [cond_false, cond_true]
                  all_goals rfl
                | true =>
                  try dsimp only [cond_false, cond_true]
                  all_goals rfl
noncomputable def uniGR (n : Nat) (P G : List Ln) : Un :=
  (Bool.rec (motive := fun _ => Un) (unR n) (uniG un0 P G) (Nat.beq n (nat_lit 0)))
theorem uniGR_def (n : Nat) (P G : List Ln) : uniGR n P G = bif Nat.beq n 0 then uniG un0 P G else unR n := by
  show (Bool.rec (motive := fun _ => Un) (unR n) (uniG un0 P G) (Nat.beq n (nat_lit 0))) = _
  try simp only [iAddQ_eq, iMulQ_eq, iNegQ_eq, lenQ_eq, nthQ_eq, setQ_eq, appQ_eq, mapQ_eq, allQ_eq, anyQ_eq, dropQ_eq, takeQ_eq, revQ_eq, getDQ_eq, optLQ_eq, brecC]
  all_goals
    cases hq_1 : (Nat.beq n 0) with
    | false =>
      try dsimp only [cond_false, cond_true]
      all_goals rfl
    | true =>
      try dsimp only [cond_false, cond_true]
      all_goals rfl
/-- a cheap look ahead: constants among the values -/
noncomputable def preVs (tab : Tb) : List AV → List AV → Bool :=
  fun e_0 e_1 => List.rec (motive := fun _ => List AV → Bool) (fun e_1 => true) (fun h_0 t_0 ih e_1 => (Sum.rec (motive := fun _ => Bool) (fun x_1770 => (Prod.rec (motive := fun _ => Bool) (fun x_1772 x_1773 => (Prod.rec (motive := fun _ => Bool) (fun c_1774 x_1775 => (List.rec (motive := fun _ => Bool) (List.rec (motive := fun _ => Bool) true (fun x_1778 q_1779 _ => (Sum.rec (motive := fun _ => Bool) (fun x_1780 => (Prod.rec (motive := fun _ => Bool) (fun x_1782 e_1783 => (Option.rec (motive := fun _ => Bool) (ih q_1779) (fun c_1784 => (Bool.rec (motive := fun _ => Bool) false (ih q_1779) (eqI c_1774 c_1784))) (cst tab e_1783))) x_1780)) (fun x_1781 => (ih q_1779)) x_1778)) e_1) (fun x_1776 x_1777 _ => (List.rec (motive := fun _ => Bool) true (fun x_1785 q_1786 _ => (ih q_1786)) e_1)) x_1775)) x_1773)) x_1770)) (fun x_1771 => (List.rec (motive := fun _ => Bool) true (fun x_1787 q_1788 _ => (ih q_1788)) e_1)) h_0)) e_0 e_1
theorem preVs_def (tab : Tb) (e_0 : List AV) (e_1 : List AV) : preVs tab e_0 e_1 = (match e_0, e_1 with
  | .inl (_, (c, [])) :: r, .inl (_, e) :: q => (match cst tab e with
    | some c' => bif eqI c c' then preVs tab r q else false
    | none => preVs tab r q)
  | _ :: r, _ :: q => preVs tab r q
  | _, _ => true) := by
  cases e_0 with
  | nil =>
    show true = _
    try simp only [iAddQ_eq, iMulQ_eq, iNegQ_eq, lenQ_eq, nthQ_eq, setQ_eq, appQ_eq, mapQ_eq, allQ_eq, anyQ_eq, dropQ_eq, takeQ_eq, revQ_eq, getDQ_eq, optLQ_eq, brecC]
    all_goals rfl
  | cons h_0 t_0 =>
    show (Sum.rec (motive := fun _ => Bool) (fun x_1789 => (Prod.rec (motive := fun _ => Bool) (fun x_1791 x_1792 => (Prod.rec (motive := fun _ => Bool) (fun c_1793 x_1794 => (List.rec (motive := fun _ => Bool) (List.rec (motive := fun _ => Bool) true (fun x_1797 q_1798 _ => (Sum.rec (motive := fun _ => Bool) (fun x_1799 => (Prod.rec (motive := fun _ => Bool) (fun x_1801 e_1802 => (Option.rec (motive := fun _ => Bool) (preVs tab t_0 q_1798) (fun c_1803 => (Bool.rec (motive := fun _ => Bool) false (preVs tab t_0 q_1798) (eqI c_1793 c_1803))) (cst tab e_1802))) x_1799)) (fun x_1800 => (preVs tab t_0 q_1798)) x_1797)) e_1) (fun x_1795 x_1796 _ => (List.rec (motive := fun _ => Bool) true (fun x_1804 q_1805 _ => (preVs tab t_0 q_1805)) e_1)) x_1794)) x_1792)) x_1789)) (fun x_1790 => (List.rec (motive := fun _ => Bool) true (fun x_1806 q_1807 _ => (preVs tab t_0 q_1807)) e_1)) h_0) = _
    try simp only [iAddQ_eq, iMulQ_eq, iNegQ_eq, lenQ_eq, nthQ_eq, setQ_eq, appQ_eq, mapQ_eq, allQ_eq, anyQ_eq, dropQ_eq, takeQ_eq, revQ_eq, getDQ_eq, optLQ_eq, brecC]
    all_goals
      cases h_0 with
      | inl y_1808 =>
        try dsimp only [cond_false, cond_true]
        all_goals
          cases y_1808 with
          | mk y_1809 y_1810 =>
            try dsimp only [cond_false, cond_true]
            all_goals
              cases y_1810 with
              | mk y_1811 y_1812 =>
                try dsimp only [cond_false, cond_true]
                all_goals
                  cases y_1812 with
                  | nil =>
                    try dsimp only [cond_false, cond_true]
                    all_goals
                      cases e_1 with
                      | nil =>
                        try dsimp only [cond_false, cond_true]
                        all_goals rfl
                      | cons y_1813 y_1814 =>
                        try dsimp only [cond_false, cond_true]
                        all_goals
                          cases y_1813 with
                          | inl y_1815 =>
                            try dsimp only [cond_false, cond_true]
                            all_goals
                              cases y_1815 with
                              | mk y_1816 y_1817 =>
                                try dsimp only [cond_false, cond_true]
                                all_goals
                                  cases hq_8 : (cst tab y_1817) with
                                  | none =>
                                    try dsimp only [cond_false, cond_true]
                                    all_goals rfl
                                  | some y_1818 =>
                                    try dsimp only [cond_false, cond_true]
                                    all_goals
                                      cases hq_9 : (eqI y_1811 y_1818) with
                                      | false =>
                                        try dsimp only [cond_false, cond_true]
                                        all_goals rfl
                                      | true =>
                                        try dsimp only [cond_false, cond_true]
                                        all_goals rfl
                          | inr y_1819 =>
                            try dsimp only [cond_false, cond_true]
                            all_goals rfl
                  | cons y_1820 y_1821 =>
                    try dsimp only [cond_false, cond_true]
                    all_goals
                      cases e_1 with
                      | nil =>
                        try dsimp only [cond_false, cond_true]
                        all_goals rfl
                      | cons y_1822 y_1823 =>
                        try dsimp only [cond_false, cond_true]
                        all_goals rfl
      | inr y_1824 =>
        try dsimp only [cond_false, cond_true]
        all_goals
          cases e_1 with
          | nil =>
            try dsimp only [cond_false, cond_true]
            all_goals rfl
          | cons y_1825 y_1826 =>
            try dsimp only [cond_false, cond_true]
            all_goals rfl
noncomputable def atPt (n : Nat) (G : List Ln) (rk : Option Ln) (pc : Nat) (st : List AV) (lv : AL) (A : AH) (pr : List PD) (tab : Tb) (fs : List Ln) (ca cb : Nat) (p : PE) : Bool :=
  (Bool.rec (motive := fun _ => Bool) false (Option.rec (motive := fun _ => Bool) false (fun q_1827 => (Bool.rec (motive := fun _ => Bool) false (Bool.rec (motive := fun _ => Bool) false (withR n (uniP tab fs pr (uniHR n (uniVs (uniGR n p.2.2.2.1 G) p.2.2.1.2.2.2.1 (appQ st q_1827)) p.2.2.1.2.2.2.2.1 A) p.2.2.1.2.2.2.2.2) (onePt n G rk A pr tab fs ca cb p (appQ st q_1827))) (preVs tab p.2.2.1.2.2.2.1 (appQ st q_1827))) (Nat.beq (Nat.add (lenQ st) (lenQ p.2.1)) (lenQ p.2.2.1.2.2.2.1)))) (lvAt lv p.2.1)) (Nat.beq pc p.1))
theorem atPt_def (n : Nat) (G : List Ln) (rk : Option Ln) (pc : Nat) (st : List AV) (lv : AL) (A : AH) (pr : List PD) (tab : Tb) (fs : List Ln) (ca cb : Nat) (p : PE) : atPt n G rk pc st lv A pr tab fs ca cb p = (bif Nat.beq pc p.1 then (match lvAt lv p.2.1 with
  | some q => (bif Nat.beq (Nat.add st.length p.2.1.length) p.2.2.1.2.2.2.1.length then (bif preVs tab p.2.2.1.2.2.2.1 (st ++ q) then withR n (uniP tab fs pr (uniHR n (uniVs (uniGR n p.2.2.2.1 G) p.2.2.1.2.2.2.1 (st ++ q)) p.2.2.1.2.2.2.2.1 A) p.2.2.1.2.2.2.2.2) (onePt n G rk A pr tab fs ca cb p (st ++ q)) else false) else false)
  | none => false) else false) := by
  show (Bool.rec (motive := fun _ => Bool) false (Option.rec (motive := fun _ => Bool) false (fun q_1827 => (Bool.rec (motive := fun _ => Bool) false (Bool.rec (motive := fun _ => Bool) false (withR n (uniP tab fs pr (uniHR n (uniVs (uniGR n p.2.2.2.1 G) p.2.2.1.2.2.2.1 (appQ st q_1827)) p.2.2.1.2.2.2.2.1 A) p.2.2.1.2.2.2.2.2) (onePt n G rk A pr tab fs ca cb p (appQ st q_1827))) (preVs tab p.2.2.1.2.2.2.1 (appQ st q_1827))) (Nat.beq (Nat.add (lenQ st) (lenQ p.2.1)) (lenQ p.2.2.1.2.2.2.1)))) (lvAt lv p.2.1)) (Nat.beq pc p.1)) = _
  try simp only [iAddQ_eq, iMulQ_eq, iNegQ_eq, lenQ_eq, nthQ_eq, setQ_eq, appQ_eq, mapQ_eq, allQ_eq, anyQ_eq, dropQ_eq, takeQ_eq, revQ_eq, getDQ_eq, optLQ_eq, brecC]
  all_goals
    cases hq_1 : (Nat.beq pc p.1) with
    | false =>
      try dsimp only [cond_false, cond_true]
      all_goals rfl
    | true =>
      try dsimp only [cond_false, cond_true]
      all_goals
        cases hq_2 : (lvAt lv p.2.1) with
        | none =>
          try dsimp only [cond_false, cond_true]
          all_goals rfl
        | some y_1828 =>
          try dsimp only [cond_false, cond_true]
          all_goals
            cases hq_3 : (Nat.beq ((Nat.add st.length p.2.1.length)) p.2.2.1.2.2.2.1.length) with
            | false =>
              try dsimp only [cond_false, cond_true]
              all_goals rfl
            | true =>
              try dsimp only [cond_false, cond_true]
              all_goals
                cases hq_4 : (preVs tab p.2.2.1.2.2.2.1 ((st ++ y_1828))) with
                | false =>
                  try dsimp only [cond_false, cond_true]
                  all_goals rfl
                | true =>
                  try dsimp only [cond_false, cond_true]
                  all_goals rfl
noncomputable def anyPt (n : Nat) (G : List Ln) (rk : Option Ln) (pc : Nat) (st : List AV) (lv : AL) (A : AH) (pr : List PD) (tab : Tb) (fs : List Ln) (ca cb : Nat) : List PE → Bool :=
  fun e_0 => List.rec (motive := fun _ => Bool) false (fun h_0 t_0 ih => (Bool.rec (motive := fun _ => Bool) (ih) true (atPt n G rk pc st lv A pr tab fs ca cb h_0))) e_0 
theorem anyPt_def (n : Nat) (G : List Ln) (rk : Option Ln) (pc : Nat) (st : List AV) (lv : AL) (A : AH) (pr : List PD) (tab : Tb) (fs : List Ln) (ca cb : Nat) (e_0 : List PE) : anyPt n G rk pc st lv A pr tab fs ca cb e_0 = (match e_0 with
  | [] => false
  | p :: r => bif atPt n G rk pc st lv A pr tab fs ca cb p then true else anyPt n G rk pc st lv A pr tab fs ca cb r) := by
  cases e_0 with
  | nil =>
    show false = _
    try simp only [iAddQ_eq, iMulQ_eq, iNegQ_eq, lenQ_eq, nthQ_eq, setQ_eq, appQ_eq, mapQ_eq, allQ_eq, anyQ_eq, dropQ_eq, takeQ_eq, revQ_eq, getDQ_eq, optLQ_eq, brecC]
    all_goals rfl
  | cons h_0 t_0 =>
    show (Bool.rec (motive := fun _ => Bool) (anyPt n G rk pc st lv A pr tab fs ca cb t_0) true (atPt n G rk pc st lv A pr tab fs ca cb h_0)) = _
    try simp only [iAddQ_eq, iMulQ_eq, iNegQ_eq, lenQ_eq, nthQ_eq, setQ_eq, appQ_eq, mapQ_eq, allQ_eq, anyQ_eq, dropQ_eq, takeQ_eq, revQ_eq, getDQ_eq, optLQ_eq, brecC]
    all_goals
      cases hq_1 : (atPt n G rk pc st lv A pr tab fs ca cb h_0) with
      | false =>
        try dsimp only [cond_false, cond_true]
        all_goals rfl
      | true =>
        try dsimp only [cond_false, cond_true]
        all_goals rfl
abbrev KK : Type := Nat → List AV → AL → AH → List PD → Nat → Tb → List Ln → Nat → Nat → Bool
noncomputable def pushF (nx : Nat) (fs : List Ln) (f : Option Ln) : List Ln :=
  (Option.rec (motive := fun _ => List Ln) fs (fun e_1829 => ((subL (sL nx) e_1829) :: fs)) f)
theorem pushF_def (nx : Nat) (fs : List Ln) (f : Option Ln) : pushF nx fs f = (match f with
  | some e => subL (sL nx) e :: fs
  | none => fs) := by
  show (Option.rec (motive := fun _ => List Ln) fs (fun e_1829 => ((subL (sL nx) e_1829) :: fs)) f) = _
  all_goals
    cases f with
    | none =>
      try dsimp only [cond_false, cond_true]
      all_goals rfl
    | some y_1830 =>
      try dsimp only [cond_false, cond_true]
      all_goals rfl
noncomputable def pushR (nx : Nat) (tab : Tb) (fs : List Ln) (r : RV) (k : Nat → Tb → List Ln → AV → Bool) : Bool :=
  (Sum.rec (motive := fun _ => Bool) (fun v_1831 => (k nx tab fs v_1831)) (fun x_1832 => (Prod.rec (motive := fun _ => Bool) (fun lg_1833 x_1834 => (Sum.rec (motive := fun _ => Bool) (fun e_1835 => (k nx tab fs (.inl (lg_1833, e_1835)))) (fun x_1836 => (Prod.rec (motive := fun _ => Bool) (fun lo_1837 x_1838 => (Prod.rec (motive := fun _ => Bool) (fun hi_1839 f_1840 => (Bool.rec (motive := fun _ => Bool) (k (Nat.succ nx) (tbIns nx lo_1837 hi_1839 tab) (pushF nx fs f_1840) (.inl (lg_1833, (sL nx)))) (k nx tab fs (.inl (lg_1833, (kL lo_1837)))) (eqI lo_1837 hi_1839))) x_1838)) x_1836)) x_1834)) x_1832)) r)
theorem pushR_def (nx : Nat) (tab : Tb) (fs : List Ln) (r : RV) (k : Nat → Tb → List Ln → AV → Bool) : pushR nx tab fs r k = (match r with
  | .inl v => k nx tab fs v
  | .inr (lg, .inl e) => k nx tab fs (.inl (lg, e))
  | .inr (lg, .inr (lo, hi, f)) => bif eqI lo hi then k nx tab fs (.inl (lg, kL lo)) else k (Nat.succ nx) (tbIns nx lo hi tab) (pushF nx fs f) (.inl (lg, sL nx))) := by
  show (Sum.rec (motive := fun _ => Bool) (fun v_1831 => (k nx tab fs v_1831)) (fun x_1832 => (Prod.rec (motive := fun _ => Bool) (fun lg_1833 x_1834 => (Sum.rec (motive := fun _ => Bool) (fun e_1835 => (k nx tab fs (.inl (lg_1833, e_1835)))) (fun x_1836 => (Prod.rec (motive := fun _ => Bool) (fun lo_1837 x_1838 => (Prod.rec (motive := fun _ => Bool) (fun hi_1839 f_1840 => (Bool.rec (motive := fun _ => Bool) (k (Nat.succ nx) (tbIns nx lo_1837 hi_1839 tab) (pushF nx fs f_1840) (.inl (lg_1833, (sL nx)))) (k nx tab fs (.inl (lg_1833, (kL lo_1837)))) (eqI lo_1837 hi_1839))) x_1838)) x_1836)) x_1834)) x_1832)) r) = _
  try simp only [iAddQ_eq, iMulQ_eq, iNegQ_eq, lenQ_eq, nthQ_eq, setQ_eq, appQ_eq, mapQ_eq, allQ_eq, anyQ_eq, dropQ_eq, takeQ_eq, revQ_eq, getDQ_eq, optLQ_eq, brecC]
  all_goals
    cases r with
    | inl y_1841 =>
      try dsimp only [cond_false, cond_true]
      all_goals rfl
    | inr y_1842 =>
      try dsimp only [cond_false, cond_true]
      all_goals
        cases y_1842 with
        | mk y_1843 y_1844 =>
          try dsimp only [cond_false, cond_true]
          all_goals
            cases y_1844 with
            | inl y_1845 =>
              try dsimp only [cond_false, cond_true]
              all_goals rfl
            | inr y_1846 =>
              try dsimp only [cond_false, cond_true]
              all_goals
                cases y_1846 with
                | mk y_1847 y_1848 =>
                  try dsimp only [cond_false, cond_true]
                  all_goals
                    cases y_1848 with
                    | mk y_1849 y_1850 =>
                      try dsimp only [cond_false, cond_true]
                      all_goals
                        cases hq_6 : (eqI y_1847 y_1849) with
                        | false =>
                          try dsimp only [cond_false, cond_true]
                          all_goals rfl
                        | true =>
                          try dsimp only [cond_false, cond_true]
                          all_goals rfl
noncomputable def onO (r : Option (Tb × List Ln)) (f : Tb → List Ln → Bool) : Bool := match r with
  | some (t, g) => f t g
  | none => true
noncomputable def onJ (r : Option Nat) (f : Nat → Bool) : Bool := match r with
  | some t => f t
  | none => false
noncomputable def br (k : Nat → Tb → List Ln → Bool) (c : Jvm.ClassFile.Cond) (tab : Tb) (fs : List Ln) (x y : Ln) (t e : Nat) : Bool := bif onO (asm c tab fs x y) (k t) then onO (asm (negC c) tab fs x y) (k e) else false
/-- of longs: unlike is below or above -/
noncomputable def brC (k : Nat → Tb → List Ln → Bool) (c : Jvm.ClassFile.Cond) (tab : Tb) (fs : List Ln) (x y : Ln) (t e : Nat) : Bool := match c with
  | .eq => bif onO (asm .eq tab fs x y) (k t) then (bif onO (asm .lt tab fs x y) (k e) then onO (asm .gt tab fs x y) (k e) else false) else false
  | .ne => bif onO (asm .eq tab fs x y) (k e) then (bif onO (asm .lt tab fs x y) (k t) then onO (asm .gt tab fs x y) (k t) else false) else false
  | c => br k c tab fs x y t e
noncomputable def tsAll (k : Nat → Tb → List Ln → Bool) (pc : Nat) (tab : Tb) (fs : List Ln) (x : Ln) : Int → List Int → Bool
  | _, [] => true
  | v, off :: r => bif onO (asm .eq tab fs x (kL v)) (fun tab' fs' => onJ (jmpA pc off) (fun t => k t tab' fs')) then tsAll k pc tab fs x (Int.add v 1) r else false
noncomputable def lsAll (k : Nat → Tb → List Ln → Bool) (pc : Nat) (tab : Tb) (fs : List Ln) (x : Ln) : List (Int × Int) → Bool
  | [] => true
  | (v, off) :: r => bif onO (asm .eq tab fs x (kL v)) (fun tab' fs' => onJ (jmpA pc off) (fun t => k t tab' fs')) then lsAll k pc tab fs x r else false
noncomputable def lsNe (x : Ln) : List (Int × Int) → Tb → List Ln → Option (Tb × List Ln)
  | [], tab, fs => some (tab, fs)
  | (v, _) :: r, tab, fs => match asm .ne tab fs x (kL v) with
    | some (tab', fs') => lsNe x r tab' fs'
    | none => none
noncomputable def g2 (k : Nat → List AV → Tb → List Ln → Bool) (i : Instr) (pc : Nat) (tab : Tb) (fs : List Ln) (st : List AV) : Bool := match i with
  | .goto off => onJ (jmpA pc off) (fun t => k t st tab fs)
  | .ifCond c off => onJ (jmpA pc off) (fun t => match st with
      | .inl (false, x) :: r => br (fun t => k t r) c tab fs x (kL 0) t (Nat.add pc 3)
      | .inr (.inr (p, q)) :: r => brC (fun t => k t r) c tab fs p q t (Nat.add pc 3)
      | _ => false)
  | .if_icmp c off => onJ (jmpA pc off) (fun t => match st with
      | .inl (false, y) :: .inl (false, x) :: r => br (fun t => k t r) c tab fs x y t (Nat.add pc 3)
      | _ => false)
  | .ifnull off => match st with
    | .inr (.inl (some _)) :: r => k (Nat.add pc 3) r tab fs
    | .inr (.inl none) :: r => onJ (jmpA pc off) (fun t => k t r tab fs)
    | _ => false
  | .ifnonnull off => match st with
    | .inr (.inl (some _)) :: r => onJ (jmpA pc off) (fun t => k t r tab fs)
    | .inr (.inl none) :: r => k (Nat.add pc 3) r tab fs
    | _ => false
  | .tableswitch d lo hi offs => match st with
    | .inl (false, x) :: r => onJ (jmpA pc d) (fun t => bif leI (Int.add (Int.add hi (Int.neg lo)) 1) (.ofNat offs.toList.length) then (bif onO (asm .lt tab fs x (kL lo)) (k t r) then (bif onO (asm .gt tab fs x (kL hi)) (k t r) then tsAll (fun t => k t r) pc tab fs x lo offs.toList else false) else false) else false)
    | _ => false
  | .lookupswitch d ps => match st with
    | .inl (false, x) :: r => onJ (jmpA pc d) (fun t => bif (ps.toList.zip (ps.toList.drop 1)).all (fun (a, next) => a.1 < next.1) then (bif onO (lsNe x ps.toList tab fs) (k t r) then lsAll (fun t => k t r) pc tab fs x ps.toList else false) else false)
    | _ => false
  | _ => false
noncomputable def loopJ (f : Nat → Bool) : Nat → Nat → Bool :=
  fun e_0 e_1 => Nat.rec (motive := fun _ => Nat → Bool) (fun e_1 => true) (fun t_0 ih e_1 => (Bool.rec (motive := fun _ => Bool) false (ih (Nat.succ e_1)) (f e_1))) e_0 e_1
theorem loopJ_def (f : Nat → Bool) (e_0 : Nat) (e_1 : Nat) : loopJ f e_0 e_1 = (match e_0, e_1 with
  | 0, _ => true
  | c + 1, j => bif f j then loopJ f c (Nat.succ j) else false) := by
  cases e_0 with
  | zero =>
    show true = _
    try simp only [iAddQ_eq, iMulQ_eq, iNegQ_eq, lenQ_eq, nthQ_eq, setQ_eq, appQ_eq, mapQ_eq, allQ_eq, anyQ_eq, dropQ_eq, takeQ_eq, revQ_eq, getDQ_eq, optLQ_eq, brecC]
    all_goals rfl
  | succ t_0 =>
    show (Bool.rec (motive := fun _ => Bool) false (loopJ f t_0 (Nat.succ e_1)) (f e_1)) = _
    try simp only [iAddQ_eq, iMulQ_eq, iNegQ_eq, lenQ_eq, nthQ_eq, setQ_eq, appQ_eq, mapQ_eq, allQ_eq, anyQ_eq, dropQ_eq, takeQ_eq, revQ_eq, getDQ_eq, optLQ_eq, brecC]
    all_goals
      cases hq_1 : (f e_1) with
      | false =>
        try dsimp only [cond_false, cond_true]
        all_goals rfl
      | true =>
        try dsimp only [cond_false, cond_true]
        all_goals rfl
noncomputable def rfA (o : Option Nat) : AV := .inr (.inl o)
noncomputable def aaL (k : List AV → Tb → List Ln → Bool) (tab : Tb) (fs : List Ln) (A : AH) (st : List AV) : Bool := match st with
  | .inl (false, e) :: .inr (.inl (some q)) :: r => (match A[q]? with
    | some (.inr (kk, .inr (.inr l))) => bif Nat.ble 4 kk then (bif Nat.blt kk 8 then (match idxR tab fs e with
      | some (x, u) => bif Nat.blt u l.length then loopJ (fun j => onO (asm .eq tab fs e (kL (.ofNat j))) (fun tab' fs' => k (rfA (l.getD j none) :: r) tab' fs')) (Nat.succ (Nat.sub u x)) x else false
      | none => false) else false) else false
    | _ => false)
  | _ => false
-- a call
noncomputable def sbV (θ : Th) (a : AV) : AV :=
  (Sum.rec (motive := fun _ => AV) (fun x_1851 => (Prod.rec (motive := fun _ => AV) (fun b_1853 e_1854 => (.inl (b_1853, (sbL θ e_1854)))) x_1851)) (fun x_1852 => (Sum.rec (motive := fun _ => AV) (fun x_1855 => a) (fun x_1856 => (Prod.rec (motive := fun _ => AV) (fun p_1857 q_1858 => (.inr (.inr ((sbL θ p_1857), (sbL θ q_1858))))) x_1856)) x_1852)) a)
theorem sbV_def (θ : Th) (a : AV) : sbV θ a = (match a with
  | .inl (b, e) => .inl (b, sbL θ e)
  | .inr (.inr (p, q)) => .inr (.inr (sbL θ p, sbL θ q))
  | a => a) := by
  show (Sum.rec (motive := fun _ => AV) (fun x_1851 => (Prod.rec (motive := fun _ => AV) (fun b_1853 e_1854 => (.inl (b_1853, (sbL θ e_1854)))) x_1851)) (fun x_1852 => (Sum.rec (motive := fun _ => AV) (fun x_1855 => a) (fun x_1856 => (Prod.rec (motive := fun _ => AV) (fun p_1857 q_1858 => (.inr (.inr ((sbL θ p_1857), (sbL θ q_1858))))) x_1856)) x_1852)) a) = _
  all_goals
    cases a with
    | inl y_1859 =>
      try dsimp only [cond_false, cond_true]
      all_goals
        cases y_1859 with
        | mk y_1860 y_1861 =>
          try dsimp only [cond_false, cond_true]
          all_goals rfl
    | inr y_1862 =>
      try dsimp only [cond_false, cond_true]
      all_goals
        cases y_1862 with
        | inl y_1863 =>
          try dsimp only [cond_false, cond_true]
          all_goals rfl
        | inr y_1864 =>
          try dsimp only [cond_false, cond_true]
          all_goals
            cases y_1864 with
            | mk y_1865 y_1866 =>
              try dsimp only [cond_false, cond_true]
              all_goals rfl
noncomputable def sbS (θ : Th) (s : Sg) : Sg :=
  (Sum.rec (motive := fun _ => Sg) (fun e_1867 => (.inl (sbL θ e_1867))) (fun x_1868 => s) s)
theorem sbS_def (θ : Th) (s : Sg) : sbS θ s = (match s with
  | .inl e => .inl (sbL θ e)
  | s => s) := by
  show (Sum.rec (motive := fun _ => Sg) (fun e_1867 => (.inl (sbL θ e_1867))) (fun x_1868 => s) s) = _
  all_goals
    cases s with
    | inl y_1869 =>
      try dsimp only [cond_false, cond_true]
      all_goals rfl
    | inr y_1870 =>
      try dsimp only [cond_false, cond_true]
      all_goals rfl
noncomputable def sbC (θ : Th) (c : AC) : AC :=
  (Sum.rec (motive := fun _ => AC) (fun x_1871 => (Prod.rec (motive := fun _ => AC) (fun ci_1873 as_1874 => (.inl (ci_1873, (mapQ (sbV θ) as_1874)))) x_1871)) (fun x_1872 => (Prod.rec (motive := fun _ => AC) (fun k_1875 x_1876 => (Sum.rec (motive := fun _ => AC) (fun s_1877 => (.inr (k_1875, (.inl (mapQ (sbS θ) s_1877))))) (fun x_1878 => c) x_1876)) x_1872)) c)
theorem sbC_def (θ : Th) (c : AC) : sbC θ c = (match c with
  | .inl (ci, as) => .inl (ci, as.map (sbV θ))
  | .inr (k, .inl s) => .inr (k, .inl (s.map (sbS θ)))
  | c => c) := by
  show (Sum.rec (motive := fun _ => AC) (fun x_1871 => (Prod.rec (motive := fun _ => AC) (fun ci_1873 as_1874 => (.inl (ci_1873, (mapQ (sbV θ) as_1874)))) x_1871)) (fun x_1872 => (Prod.rec (motive := fun _ => AC) (fun k_1875 x_1876 => (Sum.rec (motive := fun _ => AC) (fun s_1877 => (.inr (k_1875, (.inl (mapQ (sbS θ) s_1877))))) (fun x_1878 => c) x_1876)) x_1872)) c) = _
  try simp only [iAddQ_eq, iMulQ_eq, iNegQ_eq, lenQ_eq, nthQ_eq, setQ_eq, appQ_eq, mapQ_eq, allQ_eq, anyQ_eq, dropQ_eq, takeQ_eq, revQ_eq, getDQ_eq, optLQ_eq, brecC]
  all_goals
    cases c with
    | inl y_1879 =>
      try dsimp only [cond_false, cond_true]
      all_goals
        cases y_1879 with
        | mk y_1880 y_1881 =>
          try dsimp only [cond_false, cond_true]
          all_goals rfl
    | inr y_1882 =>
      try dsimp only [cond_false, cond_true]
      all_goals
        cases y_1882 with
        | mk y_1883 y_1884 =>
          try dsimp only [cond_false, cond_true]
          all_goals
            cases y_1884 with
            | inl y_1885 =>
              try dsimp only [cond_false, cond_true]
              all_goals rfl
            | inr y_1886 =>
              try dsimp only [cond_false, cond_true]
              all_goals rfl
/-- the outcome's own symbols become new ones -/
noncomputable def thN (θ : Th) (nx pnx : Nat) (s : Nat) : Ln :=
  (Bool.rec (motive := fun _ => Ln) (sL (Nat.add nx (Nat.sub s pnx))) (θ s) (Nat.blt s pnx))
theorem thN_def (θ : Th) (nx pnx : Nat) (s : Nat) : thN θ nx pnx s = bif Nat.blt s pnx then θ s else sL (Nat.add nx (Nat.sub s pnx)) := by
  show (Bool.rec (motive := fun _ => Ln) (sL (Nat.add nx (Nat.sub s pnx))) (θ s) (Nat.blt s pnx)) = _
  try simp only [iAddQ_eq, iMulQ_eq, iNegQ_eq, lenQ_eq, nthQ_eq, setQ_eq, appQ_eq, mapQ_eq, allQ_eq, anyQ_eq, dropQ_eq, takeQ_eq, revQ_eq, getDQ_eq, optLQ_eq, brecC]
  all_goals
    cases hq_1 : (Nat.blt s pnx) with
    | false =>
      try dsimp only [cond_false, cond_true]
      all_goals rfl
    | true =>
      try dsimp only [cond_false, cond_true]
      all_goals rfl
/-- their bounds, below all that was known -/
noncomputable def tbN (tab : Tb) (nx pnx : Nat) (f : Nat → Option (Int × Int)) : Tb :=
  ([], (fun t => (Bool.rec (motive := fun _ => _) (tbLk t tab) (f (Nat.add pnx (Nat.sub t nx))) (Nat.ble nx t))))
theorem tbN_def (tab : Tb) (nx pnx : Nat) (f : Nat → Option (Int × Int)) : tbN tab nx pnx f = ([], fun t => bif Nat.ble nx t then f (Nat.add pnx (Nat.sub t nx)) else tbLk t tab) := by
  show ([], (fun t => (Bool.rec (motive := fun _ => _) (tbLk t tab) (f (Nat.add pnx (Nat.sub t nx))) (Nat.ble nx t)))) = _
  try simp only [iAddQ_eq, iMulQ_eq, iNegQ_eq, lenQ_eq, nthQ_eq, setQ_eq, appQ_eq, mapQ_eq, allQ_eq, anyQ_eq, dropQ_eq, takeQ_eq, revQ_eq, getDQ_eq, optLQ_eq, brecC]
  all_goals rfl
noncomputable def tbO (tab : Tb) (nx pnx onx : Nat) (l : TbL) : Tb :=
  (Bool.rec (motive := fun _ => Tb) (Prod.rec (motive := fun _ => Tb) (fun x_1887 x_1888 => (Prod.rec (motive := fun _ => Tb) (fun f_1889 x_1890 => (tbN tab nx pnx f_1889)) x_1888)) (balT (nat_lit 9) l)) tab (Nat.beq onx pnx))
theorem tbO_def (tab : Tb) (nx pnx onx : Nat) (l : TbL) : tbO tab nx pnx onx l = (bif Nat.beq onx pnx then tab else match balT 9 l with
  | (_, f, _) => tbN tab nx pnx f) := by
  show (Bool.rec (motive := fun _ => Tb) (Prod.rec (motive := fun _ => Tb) (fun x_1887 x_1888 => (Prod.rec (motive := fun _ => Tb) (fun f_1889 x_1890 => (tbN tab nx pnx f_1889)) x_1888)) (balT (nat_lit 9) l)) tab (Nat.beq onx pnx)) = _
  try simp only [iAddQ_eq, iMulQ_eq, iNegQ_eq, lenQ_eq, nthQ_eq, setQ_eq, appQ_eq, mapQ_eq, allQ_eq, anyQ_eq, dropQ_eq, takeQ_eq, revQ_eq, getDQ_eq, optLQ_eq, brecC]
  all_goals
    cases hq_1 : (Nat.beq onx pnx) with
    | false =>
      try dsimp only [cond_false, cond_true]
      all_goals
        cases hq_2 : (balT 9 l) with
        | mk y_1891 y_1892 =>
          try dsimp only [cond_false, cond_true]
          all_goals
            cases y_1892 with
            | mk y_1893 y_1894 =>
              try dsimp only [cond_false, cond_true]
              all_goals rfl
    | true =>
      try dsimp only [cond_false, cond_true]
      all_goals rfl
noncomputable def isFr (e : Ln) (tab : Tb) : Bool :=
  (List.rec (motive := fun _ => Bool) false (fun x_1895 x_1896 _ => (Prod.rec (motive := fun _ => Bool) (fun t_1897 k_1898 => (List.rec (motive := fun _ => Bool) (Bool.rec (motive := fun _ => Bool) false (Bool.rec (motive := fun _ => Bool) false (Option.rec (motive := fun _ => Bool) true (fun x_1901 => false) (tbLk t_1897 tab)) (eqI k_1898 (.ofNat (nat_lit 1)))) (isZ e.1)) (fun x_1899 x_1900 _ => false) x_1896)) x_1895)) e.2)
theorem isFr_def (e : Ln) (tab : Tb) : isFr e tab = (match e.2 with
  | [(t, k)] => bif isZ e.1 then (bif eqI k 1 then (match tbLk t tab with
    | none => true
    | some _ => false) else false) else false
  | _ => false) := by
  show (List.rec (motive := fun _ => Bool) false (fun x_1895 x_1896 _ => (Prod.rec (motive := fun _ => Bool) (fun t_1897 k_1898 => (List.rec (motive := fun _ => Bool) (Bool.rec (motive := fun _ => Bool) false (Bool.rec (motive := fun _ => Bool) false (Option.rec (motive := fun _ => Bool) true (fun x_1901 => false) (tbLk t_1897 tab)) (eqI k_1898 (.ofNat (nat_lit 1)))) (isZ e.1)) (fun x_1899 x_1900 _ => false) x_1896)) x_1895)) e.2) = _
  try simp only [iAddQ_eq, iMulQ_eq, iNegQ_eq, lenQ_eq, nthQ_eq, setQ_eq, appQ_eq, mapQ_eq, allQ_eq, anyQ_eq, dropQ_eq, takeQ_eq, revQ_eq, getDQ_eq, optLQ_eq, brecC]
  all_goals
    cases hq_1 : e.2 with
    | nil =>
      try dsimp only [cond_false, cond_true]
      all_goals rfl
    | cons y_1902 y_1903 =>
      try dsimp only [cond_false, cond_true]
      all_goals
        cases y_1902 with
        | mk y_1904 y_1905 =>
          try dsimp only [cond_false, cond_true]
          all_goals
            cases y_1903 with
            | nil =>
              try dsimp only [cond_false, cond_true]
              all_goals
                cases hq_4 : (isZ e.1) with
                | false =>
                  try dsimp only [cond_false, cond_true]
                  all_goals rfl
                | true =>
                  try dsimp only [cond_false, cond_true]
                  all_goals
                    cases hq_5 : (eqI y_1905 1) with
                    | false =>
                      try dsimp only [cond_false, cond_true]
                      all_goals rfl
                    | true =>
                      try dsimp only [cond_false, cond_true]
                      all_goals
                        cases hq_6 : (tbLk y_1904 tab) with
                        | none =>
                          try dsimp only [cond_false, cond_true]
                          all_goals rfl
                        | some y_1906 =>
                          try dsimp only [cond_false, cond_true]
                          all_goals rfl
            | cons y_1907 y_1908 =>
              try dsimp only [cond_false, cond_true]
              all_goals rfl
noncomputable def hdS (e : Ln) : Nat :=
  (List.rec (motive := fun _ => Nat) (nat_lit 0) (fun x_1909 x_1910 _ => (Prod.rec (motive := fun _ => Nat) (fun t_1911 x_1912 => t_1911) x_1909)) e.2)
theorem hdS_def (e : Ln) : hdS e = (match e.2 with
  | (t, _) :: _ => t
  | [] => 0) := by
  show (List.rec (motive := fun _ => Nat) (nat_lit 0) (fun x_1909 x_1910 _ => (Prod.rec (motive := fun _ => Nat) (fun t_1911 x_1912 => t_1911) x_1909)) e.2) = _
  all_goals
    cases hq_1 : e.2 with
    | nil =>
      try dsimp only [cond_false, cond_true]
      all_goals rfl
    | cons y_1913 y_1914 =>
      try dsimp only [cond_false, cond_true]
      all_goals
        cases y_1913 with
        | mk y_1915 y_1916 =>
          try dsimp only [cond_false, cond_true]
          all_goals rfl
noncomputable def addB (e : Ln) (lo hi : Int) (tab : Tb) (fs : List Ln) : Option (Tb × List Ln) :=
  (Bool.rec (motive := fun _ => Option (Tb × List Ln)) (Option.rec (motive := fun _ => Option (Tb × List Ln)) none (fun x_1917 => (Prod.rec (motive := fun _ => Option (Tb × List Ln)) (fun tab_1918 fs_1919 => (addLe tab_1918 fs_1919 (subL (kL lo) e))) x_1917)) (addLe tab fs (pluL e (iNegQ hi)))) (some ((tbIns (hdS e) lo hi tab), fs)) (isFr e tab))
theorem addB_def (e : Ln) (lo hi : Int) (tab : Tb) (fs : List Ln) : addB e lo hi tab fs = (bif isFr e tab then some (tbIns (hdS e) lo hi tab, fs) else match addLe tab fs (pluL e (Int.neg hi)) with
  | some (tab', fs') => addLe tab' fs' (subL (kL lo) e)
  | none => none) := by
  show (Bool.rec (motive := fun _ => Option (Tb × List Ln)) (Option.rec (motive := fun _ => Option (Tb × List Ln)) none (fun x_1917 => (Prod.rec (motive := fun _ => Option (Tb × List Ln)) (fun tab_1918 fs_1919 => (addLe tab_1918 fs_1919 (subL (kL lo) e))) x_1917)) (addLe tab fs (pluL e (iNegQ hi)))) (some ((tbIns (hdS e) lo hi tab), fs)) (isFr e tab)) = _
  try simp only [iAddQ_eq, iMulQ_eq, iNegQ_eq, lenQ_eq, nthQ_eq, setQ_eq, appQ_eq, mapQ_eq, allQ_eq, anyQ_eq, dropQ_eq, takeQ_eq, revQ_eq, getDQ_eq, optLQ_eq, brecC]
  all_goals
    cases hq_1 : (isFr e tab) with
    | false =>
      try dsimp only [cond_false, cond_true]
      all_goals
        cases hq_2 : (addLe tab fs ((pluL e ((Int.neg hi))))) with
        | none =>
          try dsimp only [cond_false, cond_true]
          all_goals rfl
        | some y_1920 =>
          try dsimp only [cond_false, cond_true]
          all_goals
            cases y_1920 with
            | mk y_1921 y_1922 =>
              try dsimp only [cond_false, cond_true]
              all_goals rfl
    | true =>
      try dsimp only [cond_false, cond_true]
      all_goals rfl
noncomputable def addT' (θ : Th) (pnx : Nat) : TbL → Tb → List Ln → Option (Tb × List Ln) :=
  fun e_0 e_1 e_2 => List.rec (motive := fun _ => Tb → List Ln → Option (Tb × List Ln)) (fun e_1 e_2 => (some (e_1, e_2))) (fun h_0 t_0 ih e_1 e_2 => (Prod.rec (motive := fun _ => Option (Tb × List Ln)) (fun s_1923 x_1924 => (Prod.rec (motive := fun _ => Option (Tb × List Ln)) (fun lo_1925 hi_1926 => (Bool.rec (motive := fun _ => Option (Tb × List Ln)) (some (e_1, e_2)) (Option.rec (motive := fun _ => Option (Tb × List Ln)) none (fun x_1927 => (Prod.rec (motive := fun _ => Option (Tb × List Ln)) (fun tab_1928 fs_1929 => (ih tab_1928 fs_1929)) x_1927)) (addB (θ s_1923) lo_1925 hi_1926 e_1 e_2)) (Nat.blt s_1923 pnx))) x_1924)) h_0)) e_0 e_1 e_2
theorem addT'_def (θ : Th) (pnx : Nat) (e_0 : TbL) (e_1 : Tb) (e_2 : List Ln) : addT' θ pnx e_0 e_1 e_2 = (match e_0, e_1, e_2 with
  | [], tab, fs => some (tab, fs)
  | (s, lo, hi) :: r, tab, fs => bif Nat.blt s pnx then (match addB (θ s) lo hi tab fs with
    | some (tab', fs') => addT' θ pnx r tab' fs'
    | none => none) else some (tab, fs)) := by
  cases e_0 with
  | nil =>
    show (some (e_1, e_2)) = _
    try simp only [iAddQ_eq, iMulQ_eq, iNegQ_eq, lenQ_eq, nthQ_eq, setQ_eq, appQ_eq, mapQ_eq, allQ_eq, anyQ_eq, dropQ_eq, takeQ_eq, revQ_eq, getDQ_eq, optLQ_eq, brecC]
    all_goals rfl
  | cons h_0 t_0 =>
    show (Prod.rec (motive := fun _ => Option (Tb × List Ln)) (fun s_1930 x_1931 => (Prod.rec (motive := fun _ => Option (Tb × List Ln)) (fun lo_1932 hi_1933 => (Bool.rec (motive := fun _ => Option (Tb × List Ln)) (some (e_1, e_2)) (Option.rec (motive := fun _ => Option (Tb × List Ln)) none (fun x_1934 => (Prod.rec (motive := fun _ => Option (Tb × List Ln)) (fun tab_1935 fs_1936 => (addT' θ pnx t_0 tab_1935 fs_1936)) x_1934)) (addB (θ s_1930) lo_1932 hi_1933 e_1 e_2)) (Nat.blt s_1930 pnx))) x_1931)) h_0) = _
    try simp only [iAddQ_eq, iMulQ_eq, iNegQ_eq, lenQ_eq, nthQ_eq, setQ_eq, appQ_eq, mapQ_eq, allQ_eq, anyQ_eq, dropQ_eq, takeQ_eq, revQ_eq, getDQ_eq, optLQ_eq, brecC]
    all_goals
      cases h_0 with
      | mk y_1937 y_1938 =>
        try dsimp only [cond_false, cond_true]
        all_goals
          cases y_1938 with
          | mk y_1939 y_1940 =>
            try dsimp only [cond_false, cond_true]
            all_goals
              cases hq_3 : (Nat.blt y_1937 pnx) with
              | false =>
                try dsimp only [cond_false, cond_true]
                all_goals rfl
              | true =>
                try dsimp only [cond_false, cond_true]
                all_goals
                  cases hq_4 : (addB ((θ y_1937)) y_1939 y_1940 e_1 e_2) with
                  | none =>
                    try dsimp only [cond_false, cond_true]
                    all_goals rfl
                  | some y_1941 =>
                    try dsimp only [cond_false, cond_true]
                    all_goals
                      cases y_1941 with
                      | mk y_1942 y_1943 =>
                        try dsimp only [cond_false, cond_true]
                        all_goals rfl
noncomputable def addF' (θ : Th) : List Ln → Tb → List Ln → Option (Tb × List Ln) :=
  fun e_0 e_1 e_2 => List.rec (motive := fun _ => Tb → List Ln → Option (Tb × List Ln)) (fun e_1 e_2 => (some (e_1, e_2))) (fun h_0 t_0 ih e_1 e_2 => (Option.rec (motive := fun _ => Option (Tb × List Ln)) none (fun x_1944 => (Prod.rec (motive := fun _ => Option (Tb × List Ln)) (fun tab_1945 fs_1946 => (ih tab_1945 fs_1946)) x_1944)) (addLe e_1 e_2 (sbL θ h_0)))) e_0 e_1 e_2
theorem addF'_def (θ : Th) (e_0 : List Ln) (e_1 : Tb) (e_2 : List Ln) : addF' θ e_0 e_1 e_2 = (match e_0, e_1, e_2 with
  | [], tab, fs => some (tab, fs)
  | f :: r, tab, fs => match addLe tab fs (sbL θ f) with
    | some (tab', fs') => addF' θ r tab' fs'
    | none => none) := by
  cases e_0 with
  | nil =>
    show (some (e_1, e_2)) = _
    try simp only [iAddQ_eq, iMulQ_eq, iNegQ_eq, lenQ_eq, nthQ_eq, setQ_eq, appQ_eq, mapQ_eq, allQ_eq, anyQ_eq, dropQ_eq, takeQ_eq, revQ_eq, getDQ_eq, optLQ_eq, brecC]
    all_goals rfl
  | cons h_0 t_0 =>
    show (Option.rec (motive := fun _ => Option (Tb × List Ln)) none (fun x_1947 => (Prod.rec (motive := fun _ => Option (Tb × List Ln)) (fun tab_1948 fs_1949 => (addF' θ t_0 tab_1948 fs_1949)) x_1947)) (addLe e_1 e_2 (sbL θ h_0))) = _
    try simp only [iAddQ_eq, iMulQ_eq, iNegQ_eq, lenQ_eq, nthQ_eq, setQ_eq, appQ_eq, mapQ_eq, allQ_eq, anyQ_eq, dropQ_eq, takeQ_eq, revQ_eq, getDQ_eq, optLQ_eq, brecC]
    all_goals
      cases hq_1 : (addLe e_1 e_2 ((sbL θ h_0))) with
      | none =>
        try dsimp only [cond_false, cond_true]
        all_goals rfl
      | some y_1950 =>
        try dsimp only [cond_false, cond_true]
        all_goals
          cases y_1950 with
          | mk y_1951 y_1952 =>
            try dsimp only [cond_false, cond_true]
            all_goals rfl
/-- a row that the contract doesn't look into: one number, of its own -/
noncomputable def convC (y : Nat) (p a : AC) : AC :=
  (Sum.rec (motive := fun _ => AC) (fun x_1953 => a) (fun x_1954 => (Prod.rec (motive := fun _ => AC) (fun kp_1955 x_1956 => (Sum.rec (motive := fun _ => AC) (fun x_1957 => (Sum.rec (motive := fun _ => AC) (fun x_1959 => a) (fun x_1960 => (Prod.rec (motive := fun _ => AC) (fun kh_1961 x_1962 => (Sum.rec (motive := fun _ => AC) (fun s_1963 => (Bool.rec (motive := fun _ => AC) (.inr (kh_1961, (.inl s_1963))) (Bool.rec (motive := fun _ => AC) (.inr (kh_1961, (.inl s_1963))) (.inr ((Nat.add kh_1961 (nat_lit 100)), (.inl [(.inl (sL y))]))) (Nat.blt kh_1961 (nat_lit 100))) (Nat.ble (nat_lit 100) kp_1955))) (fun x_1964 => a) x_1962)) x_1960)) a)) (fun x_1958 => a) x_1956)) x_1954)) p)
theorem convC_def (y : Nat) (p a : AC) : convC y p a = (match p, a with
  | .inr (kp, .inl _), .inr (kh, .inl s) => bif Nat.ble 100 kp then (bif Nat.blt kh 100 then .inr (Nat.add kh 100, .inl [.inl (sL y)]) else .inr (kh, .inl s)) else .inr (kh, .inl s)
  | _, a => a) := by
  show (Sum.rec (motive := fun _ => AC) (fun x_1953 => a) (fun x_1954 => (Prod.rec (motive := fun _ => AC) (fun kp_1955 x_1956 => (Sum.rec (motive := fun _ => AC) (fun x_1957 => (Sum.rec (motive := fun _ => AC) (fun x_1959 => a) (fun x_1960 => (Prod.rec (motive := fun _ => AC) (fun kh_1961 x_1962 => (Sum.rec (motive := fun _ => AC) (fun s_1963 => (Bool.rec (motive := fun _ => AC) (.inr (kh_1961, (.inl s_1963))) (Bool.rec (motive := fun _ => AC) (.inr (kh_1961, (.inl s_1963))) (.inr ((Nat.add kh_1961 (nat_lit 100)), (.inl [(.inl (sL y))]))) (Nat.blt kh_1961 (nat_lit 100))) (Nat.ble (nat_lit 100) kp_1955))) (fun x_1964 => a) x_1962)) x_1960)) a)) (fun x_1958 => a) x_1956)) x_1954)) p) = _
  try simp only [iAddQ_eq, iMulQ_eq, iNegQ_eq, lenQ_eq, nthQ_eq, setQ_eq, appQ_eq, mapQ_eq, allQ_eq, anyQ_eq, dropQ_eq, takeQ_eq, revQ_eq, getDQ_eq, optLQ_eq, brecC]
  all_goals
    cases p with
    | inl y_1965 =>
      try dsimp only [cond_false, cond_true]
      all_goals rfl
    | inr y_1966 =>
      try dsimp only [cond_false, cond_true]
      all_goals
        cases y_1966 with
        | mk y_1967 y_1968 =>
          try dsimp only [cond_false, cond_true]
          all_goals
            cases y_1968 with
            | inl y_1969 =>
              try dsimp only [cond_false, cond_true]
              all_goals
                cases a with
                | inl y_1970 =>
                  try dsimp only [cond_false, cond_true]
                  all_goals rfl
                | inr y_1971 =>
                  try dsimp only [cond_false, cond_true]
                  all_goals
                    cases y_1971 with
                    | mk y_1972 y_1973 =>
                      try dsimp only [cond_false, cond_true]
                      all_goals
                        cases y_1973 with
                        | inl y_1974 =>
                          try dsimp only [cond_false, cond_true]
                          all_goals
                            cases hq_7 : (Nat.ble 100 y_1967) with
                            | false =>
                              try dsimp only [cond_false, cond_true]
                              all_goals rfl
                            | true =>
                              try dsimp only [cond_false, cond_true]
                              all_goals
                                cases hq_8 : (Nat.blt y_1972 100) with
                                | false =>
                                  try dsimp only [cond_false, cond_true]
                                  all_goals rfl
                                | true =>
                                  try dsimp only [cond_false, cond_true]
                                  all_goals rfl
                        | inr y_1975 =>
                          try dsimp only [cond_false, cond_true]
                          all_goals rfl
            | inr y_1976 =>
              try dsimp only [cond_false, cond_true]
              all_goals rfl
noncomputable def convH (nx : Nat) : Nat → AH → AH → AH :=
  fun e_0 e_1 e_2 => List.rec (motive := fun _ => Nat → AH → AH) (fun e_0 e_2 => e_2) (fun h_0 t_0 ih e_0 e_2 => (List.rec (motive := fun _ => AH) e_2 (fun a_1977 as_1978 _ => ((convC (Nat.add nx e_0) h_0 a_1977) :: (ih (Nat.succ e_0) as_1978))) e_2)) e_1 e_0 e_2
theorem convH_def (nx : Nat) (e_0 : Nat) (e_1 : AH) (e_2 : AH) : convH nx e_0 e_1 e_2 = (match e_0, e_1, e_2 with
  | i, p :: ps, a :: as => convC (Nat.add nx i) p a :: convH nx (Nat.succ i) ps as
  | _, _, A => A) := by
  cases e_1 with
  | nil =>
    show e_2 = _
    try simp only [iAddQ_eq, iMulQ_eq, iNegQ_eq, lenQ_eq, nthQ_eq, setQ_eq, appQ_eq, mapQ_eq, allQ_eq, anyQ_eq, dropQ_eq, takeQ_eq, revQ_eq, getDQ_eq, optLQ_eq, brecC]
    all_goals rfl
  | cons h_0 t_0 =>
    show (List.rec (motive := fun _ => AH) e_2 (fun a_1979 as_1980 _ => ((convC (Nat.add nx e_0) h_0 a_1979) :: (convH nx (Nat.succ e_0) t_0 as_1980))) e_2) = _
    try simp only [iAddQ_eq, iMulQ_eq, iNegQ_eq, lenQ_eq, nthQ_eq, setQ_eq, appQ_eq, mapQ_eq, allQ_eq, anyQ_eq, dropQ_eq, takeQ_eq, revQ_eq, getDQ_eq, optLQ_eq, brecC]
    all_goals
      cases e_2 with
      | nil =>
        try dsimp only [cond_false, cond_true]
        all_goals rfl
      | cons y_1981 y_1982 =>
        try dsimp only [cond_false, cond_true]
        all_goals rfl
/-- a row that came back as it was, or as another was: what was known of that one -/
noncomputable def resC (nx nI : Nat) (H : AH) (c : AC) : AC :=
  (Sum.rec (motive := fun _ => AC) (fun x_1983 => c) (fun x_1984 => (Prod.rec (motive := fun _ => AC) (fun k_1985 x_1986 => (Sum.rec (motive := fun _ => AC) (fun x_1987 => (List.rec (motive := fun _ => AC) c (fun x_1989 x_1990 _ => (Sum.rec (motive := fun _ => AC) (fun x_1991 => (Prod.rec (motive := fun _ => AC) (fun z_1993 x_1994 => (List.rec (motive := fun _ => AC) c (fun x_1995 x_1996 _ => (Prod.rec (motive := fun _ => AC) (fun y_1997 w_1998 => (List.rec (motive := fun _ => AC) (List.rec (motive := fun _ => AC) (Bool.rec (motive := fun _ => AC) c (Option.rec (motive := fun _ => AC) c (fun x_2003 => (Sum.rec (motive := fun _ => AC) (fun x_2004 => c) (fun x_2005 => (Prod.rec (motive := fun _ => AC) (fun kh_2006 x_2007 => (Sum.rec (motive := fun _ => AC) (fun s_2008 => (Bool.rec (motive := fun _ => AC) c (.inr (kh_2006, (.inl s_2008))) (Bool.rec (motive := fun _ => Bool) false (Nat.beq (Nat.add kh_2006 (nat_lit 100)) k_1985) (Nat.blt kh_2006 (nat_lit 100))))) (fun x_2009 => c) x_2007)) x_2005)) x_2003)) (nthQ H (Nat.sub y_1997 nx))) (Bool.rec (motive := fun _ => Bool) false (Bool.rec (motive := fun _ => Bool) false (Bool.rec (motive := fun _ => Bool) false (Bool.rec (motive := fun _ => Bool) false (Nat.blt (Nat.sub y_1997 nx) nI) (Nat.ble nx y_1997)) (eqI w_1998 (.ofNat (nat_lit 1)))) (isZ z_1993)) (Nat.ble (nat_lit 100) k_1985))) (fun x_2001 x_2002 _ => c) x_1990) (fun x_1999 x_2000 _ => c) x_1996)) x_1995)) x_1994)) x_1991)) (fun x_1992 => c) x_1989)) x_1987)) (fun x_1988 => c) x_1986)) x_1984)) c)
theorem resC_def (nx nI : Nat) (H : AH) (c : AC) : resC nx nI H c = (match c with
  | .inr (k, .inl [.inl (z, [(y, w)])]) => bif (bif Nat.ble 100 k then (bif isZ z then (bif eqI w 1 then (bif Nat.ble nx y then Nat.blt (Nat.sub y nx) nI else false) else false) else false) else false) then (match H[Nat.sub y nx]? with
    | some (.inr (kh, .inl s)) => bif (bif Nat.blt kh 100 then Nat.beq (Nat.add kh 100) k else false) then .inr (kh, .inl s) else c
    | _ => c) else c
  | c => c) := by
  show (Sum.rec (motive := fun _ => AC) (fun x_1983 => c) (fun x_1984 => (Prod.rec (motive := fun _ => AC) (fun k_1985 x_1986 => (Sum.rec (motive := fun _ => AC) (fun x_1987 => (List.rec (motive := fun _ => AC) c (fun x_1989 x_1990 _ => (Sum.rec (motive := fun _ => AC) (fun x_1991 => (Prod.rec (motive := fun _ => AC) (fun z_1993 x_1994 => (List.rec (motive := fun _ => AC) c (fun x_1995 x_1996 _ => (Prod.rec (motive := fun _ => AC) (fun y_1997 w_1998 => (List.rec (motive := fun _ => AC) (List.rec (motive := fun _ => AC) (Bool.rec (motive := fun _ => AC) c (Option.rec (motive := fun _ => AC) c (fun x_2003 => (Sum.rec (motive := fun _ => AC) (fun x_2004 => c) (fun x_2005 => (Prod.rec (motive := fun _ => AC) (fun kh_2006 x_2007 => (Sum.rec (motive := fun _ => AC) (fun s_2008 => (Bool.rec (motive := fun _ => AC) c (.inr (kh_2006, (.inl s_2008))) (Bool.rec (motive := fun _ => Bool) false (Nat.beq (Nat.add kh_2006 (nat_lit 100)) k_1985) (Nat.blt kh_2006 (nat_lit 100))))) (fun x_2009 => c) x_2007)) x_2005)) x_2003)) (nthQ H (Nat.sub y_1997 nx))) (Bool.rec (motive := fun _ => Bool) false (Bool.rec (motive := fun _ => Bool) false (Bool.rec (motive := fun _ => Bool) false (Bool.rec (motive := fun _ => Bool) false (Nat.blt (Nat.sub y_1997 nx) nI) (Nat.ble nx y_1997)) (eqI w_1998 (.ofNat (nat_lit 1)))) (isZ z_1993)) (Nat.ble (nat_lit 100) k_1985))) (fun x_2001 x_2002 _ => c) x_1990) (fun x_1999 x_2000 _ => c) x_1996)) x_1995)) x_1994)) x_1991)) (fun x_1992 => c) x_1989)) x_1987)) (fun x_1988 => c) x_1986)) x_1984)) c) = _
  try simp only [iAddQ_eq, iMulQ_eq, iNegQ_eq, lenQ_eq, nthQ_eq, setQ_eq, appQ_eq, mapQ_eq, allQ_eq, anyQ_eq, dropQ_eq, takeQ_eq, revQ_eq, getDQ_eq, optLQ_eq, brecC]
  all_goals
    cases c with
    | inl y_2010 =>
      try dsimp only [cond_false, cond_true]
      all_goals rfl
    | inr y_2011 =>
      try dsimp only [cond_false, cond_true]
      all_goals
        cases y_2011 with
        | mk y_2012 y_2013 =>
          try dsimp only [cond_false, cond_true]
          all_goals
            cases y_2013 with
            | inl y_2014 =>
              try dsimp only [cond_false, cond_true]
              all_goals
                cases y_2014 with
                | nil =>
                  try dsimp only [cond_false, cond_true]
                  all_goals rfl
                | cons y_2015 y_2016 =>
                  try dsimp only [cond_false, cond_true]
                  all_goals
                    cases y_2015 with
                    | inl y_2017 =>
                      try dsimp only [cond_false, cond_true]
                      all_goals
                        cases y_2017 with
                        | mk y_2018 y_2019 =>
                          try dsimp only [cond_false, cond_true]
                          all_goals
                            cases y_2019 with
                            | nil =>
                              try dsimp only [cond_false, cond_true]
                              all_goals rfl
                            | cons y_2020 y_2021 =>
                              try dsimp only [cond_false, cond_true]
                              all_goals
                                cases y_2020 with
                                | mk y_2022 y_2023 =>
                                  try dsimp only [cond_false, cond_true]
                                  all_goals
                                    cases y_2021 with
                                    | nil =>
                                      try dsimp only [cond_false, cond_true]
                                      all_goals
                                        cases y_2016 with
                                        | nil =>
                                          try dsimp only [cond_false, cond_true]
                                          all_goals
                                            cases hq_11 : ((bif (Nat.ble 100 y_2012) then ((bif (isZ y_2018) then ((bif (eqI y_2023 1) then ((bif (Nat.ble nx y_2022) then (Nat.blt ((Nat.sub y_2022 nx)) nI) else false)) else false)) else false)) else false)) with
                                            | false =>
                                              try dsimp only [cond_false, cond_true]
                                              all_goals rfl
                                            | true =>
                                              try dsimp only [cond_false, cond_true]
                                              all_goals
                                                cases hq_12 : H[(Nat.sub y_2022 nx)]? with
                                                | none =>
                                                  try dsimp only [cond_false, cond_true]
                                                  all_goals rfl
                                                | some y_2024 =>
                                                  try dsimp only [cond_false, cond_true]
                                                  all_goals
                                                    cases y_2024 with
                                                    | inl y_2025 =>
                                                      try dsimp only [cond_false, cond_true]
                                                      all_goals rfl
                                                    | inr y_2026 =>
                                                      try dsimp only [cond_false, cond_true]
                                                      all_goals
                                                        cases y_2026 with
                                                        | mk y_2027 y_2028 =>
                                                          try dsimp only [cond_false, cond_true]
                                                          all_goals
                                                            cases y_2028 with
                                                            | inl y_2029 =>
                                                              try dsimp only [cond_false, cond_true]
                                                              all_goals
                                                                cases hq_16 : ((bif (Nat.blt y_2027 100) then (Nat.beq ((Nat.add y_2027 100)) y_2012) else false)) with
                                                                | false =>
                                                                  try dsimp only [cond_false, cond_true]
                                                                  all_goals rfl
                                                                | true =>
                                                                  try dsimp only [cond_false, cond_true]
                                                                  all_goals rfl
                                                            | inr y_2030 =>
                                                              try dsimp only [cond_false, cond_true]
                                                              all_goals rfl
                                        | cons y_2031 y_2032 =>
                                          try dsimp only [cond_false, cond_true]
                                          all_goals rfl
                                    | cons y_2033 y_2034 =>
                                      try dsimp only [cond_false, cond_true]
                                      all_goals rfl
                    | inr y_2035 =>
                      try dsimp only [cond_false, cond_true]
                      all_goals rfl
            | inr y_2036 =>
              try dsimp only [cond_false, cond_true]
              all_goals rfl
noncomputable def sameA (a b : AC) : Bool :=
  (Sum.rec (motive := fun _ => Bool) (fun x_2037 => false) (fun x_2038 => (Prod.rec (motive := fun _ => Bool) (fun k_2039 x_2040 => (Sum.rec (motive := fun _ => Bool) (fun x_2041 => (List.rec (motive := fun _ => Bool) false (fun x_2043 x_2044 _ => (Sum.rec (motive := fun _ => Bool) (fun e_2045 => (List.rec (motive := fun _ => Bool) (Sum.rec (motive := fun _ => Bool) (fun x_2049 => false) (fun x_2050 => (Prod.rec (motive := fun _ => Bool) (fun k_2051 x_2052 => (Sum.rec (motive := fun _ => Bool) (fun x_2053 => (List.rec (motive := fun _ => Bool) false (fun x_2055 x_2056 _ => (Sum.rec (motive := fun _ => Bool) (fun e_2057 => (List.rec (motive := fun _ => Bool) (Bool.rec (motive := fun _ => Bool) false (Bool.rec (motive := fun _ => Bool) false (Bool.rec (motive := fun _ => Bool) false (eqT e_2045.2 e_2057.2) (eqI e_2045.1 e_2057.1)) (Nat.ble (nat_lit 100) k_2051)) (Nat.ble (nat_lit 100) k_2039)) (fun x_2059 x_2060 _ => false) x_2056)) (fun x_2058 => false) x_2055)) x_2053)) (fun x_2054 => false) x_2052)) x_2050)) b) (fun x_2047 x_2048 _ => false) x_2044)) (fun x_2046 => false) x_2043)) x_2041)) (fun x_2042 => false) x_2040)) x_2038)) a)
theorem sameA_def (a b : AC) : sameA a b = (match a, b with
  | .inr (k, .inl [.inl e]), .inr (k', .inl [.inl e']) => bif Nat.ble 100 k then (bif Nat.ble 100 k' then (bif eqI e.1 e'.1 then eqT e.2 e'.2 else false) else false) else false
  | _, _ => false) := by
  show (Sum.rec (motive := fun _ => Bool) (fun x_2037 => false) (fun x_2038 => (Prod.rec (motive := fun _ => Bool) (fun k_2039 x_2040 => (Sum.rec (motive := fun _ => Bool) (fun x_2041 => (List.rec (motive := fun _ => Bool) false (fun x_2043 x_2044 _ => (Sum.rec (motive := fun _ => Bool) (fun e_2045 => (List.rec (motive := fun _ => Bool) (Sum.rec (motive := fun _ => Bool) (fun x_2049 => false) (fun x_2050 => (Prod.rec (motive := fun _ => Bool) (fun k_2051 x_2052 => (Sum.rec (motive := fun _ => Bool) (fun x_2053 => (List.rec (motive := fun _ => Bool) false (fun x_2055 x_2056 _ => (Sum.rec (motive := fun _ => Bool) (fun e_2057 => (List.rec (motive := fun _ => Bool) (Bool.rec (motive := fun _ => Bool) false (Bool.rec (motive := fun _ => Bool) false (Bool.rec (motive := fun _ => Bool) false (eqT e_2045.2 e_2057.2) (eqI e_2045.1 e_2057.1)) (Nat.ble (nat_lit 100) k_2051)) (Nat.ble (nat_lit 100) k_2039)) (fun x_2059 x_2060 _ => false) x_2056)) (fun x_2058 => false) x_2055)) x_2053)) (fun x_2054 => false) x_2052)) x_2050)) b) (fun x_2047 x_2048 _ => false) x_2044)) (fun x_2046 => false) x_2043)) x_2041)) (fun x_2042 => false) x_2040)) x_2038)) a) = _
  try simp only [iAddQ_eq, iMulQ_eq, iNegQ_eq, lenQ_eq, nthQ_eq, setQ_eq, appQ_eq, mapQ_eq, allQ_eq, anyQ_eq, dropQ_eq, takeQ_eq, revQ_eq, getDQ_eq, optLQ_eq, brecC]
  all_goals
    cases a with
    | inl y_2061 =>
      try dsimp only [cond_false, cond_true]
      all_goals rfl
    | inr y_2062 =>
      try dsimp only [cond_false, cond_true]
      all_goals
        cases y_2062 with
        | mk y_2063 y_2064 =>
          try dsimp only [cond_false, cond_true]
          all_goals
            cases y_2064 with
            | inl y_2065 =>
              try dsimp only [cond_false, cond_true]
              all_goals
                cases y_2065 with
                | nil =>
                  try dsimp only [cond_false, cond_true]
                  all_goals rfl
                | cons y_2066 y_2067 =>
                  try dsimp only [cond_false, cond_true]
                  all_goals
                    cases y_2066 with
                    | inl y_2068 =>
                      try dsimp only [cond_false, cond_true]
                      all_goals
                        cases y_2067 with
                        | nil =>
                          try dsimp only [cond_false, cond_true]
                          all_goals
                            cases b with
                            | inl y_2069 =>
                              try dsimp only [cond_false, cond_true]
                              all_goals rfl
                            | inr y_2070 =>
                              try dsimp only [cond_false, cond_true]
                              all_goals
                                cases y_2070 with
                                | mk y_2071 y_2072 =>
                                  try dsimp only [cond_false, cond_true]
                                  all_goals
                                    cases y_2072 with
                                    | inl y_2073 =>
                                      try dsimp only [cond_false, cond_true]
                                      all_goals
                                        cases y_2073 with
                                        | nil =>
                                          try dsimp only [cond_false, cond_true]
                                          all_goals rfl
                                        | cons y_2074 y_2075 =>
                                          try dsimp only [cond_false, cond_true]
                                          all_goals
                                            cases y_2074 with
                                            | inl y_2076 =>
                                              try dsimp only [cond_false, cond_true]
                                              all_goals
                                                cases y_2075 with
                                                | nil =>
                                                  try dsimp only [cond_false, cond_true]
                                                  all_goals
                                                    cases hq_13 : (Nat.ble 100 y_2063) with
                                                    | false =>
                                                      try dsimp only [cond_false, cond_true]
                                                      all_goals rfl
                                                    | true =>
                                                      try dsimp only [cond_false, cond_true]
                                                      all_goals
                                                        cases hq_14 : (Nat.ble 100 y_2071) with
                                                        | false =>
                                                          try dsimp only [cond_false, cond_true]
                                                          all_goals rfl
                                                        | true =>
                                                          try dsimp only [cond_false, cond_true]
                                                          all_goals
                                                            cases hq_15 : (eqI y_2068.1 y_2076.1) with
                                                            | false =>
                                                              try dsimp only [cond_false, cond_true]
                                                              all_goals rfl
                                                            | true =>
                                                              try dsimp only [cond_false, cond_true]
                                                              all_goals rfl
                                                | cons y_2077 y_2078 =>
                                                  try dsimp only [cond_false, cond_true]
                                                  all_goals rfl
                                            | inr y_2079 =>
                                              try dsimp only [cond_false, cond_true]
                                              all_goals rfl
                                    | inr y_2080 =>
                                      try dsimp only [cond_false, cond_true]
                                      all_goals rfl
                        | cons y_2081 y_2082 =>
                          try dsimp only [cond_false, cond_true]
                          all_goals rfl
                    | inr y_2083 =>
                      try dsimp only [cond_false, cond_true]
                      all_goals rfl
            | inr y_2084 =>
              try dsimp only [cond_false, cond_true]
              all_goals rfl
noncomputable def getC (H : AH) (i : Nat) : AC :=
  (getDQ H i (.inl ((nat_lit 0), [])))
theorem getC_def (H : AH) (i : Nat) : getC H i = H.getD i (.inl (0, [])) := by
  show (getDQ H i (.inl ((nat_lit 0), []))) = _
  try simp only [iAddQ_eq, iMulQ_eq, iNegQ_eq, lenQ_eq, nthQ_eq, setQ_eq, appQ_eq, mapQ_eq, allQ_eq, anyQ_eq, dropQ_eq, takeQ_eq, revQ_eq, getDQ_eq, optLQ_eq, brecC]
  all_goals rfl
noncomputable def okP (I : List Nat) (n : Nat) (H' H1 : AH) : List Nat → Bool :=
  fun e_0 => List.rec (motive := fun _ => Bool) true (fun h_0 t_0 ih => (Bool.rec (motive := fun _ => Bool) false (ih) (Bool.rec (motive := fun _ => Bool) (Nat.blt h_0 n) (sameA (getC H' (ixA h_0 I)) (getC H1 (ixA h_0 I))) (memN h_0 I)))) e_0 
theorem okP_def (I : List Nat) (n : Nat) (H' H1 : AH) (e_0 : List Nat) : okP I n H' H1 e_0 = (match e_0 with
  | [] => true
  | c :: r => bif (bif memN c I then sameA (getC H' (ixA c I)) (getC H1 (ixA c I)) else Nat.blt c n) then okP I n H' H1 r else false) := by
  cases e_0 with
  | nil =>
    show true = _
    try simp only [iAddQ_eq, iMulQ_eq, iNegQ_eq, lenQ_eq, nthQ_eq, setQ_eq, appQ_eq, mapQ_eq, allQ_eq, anyQ_eq, dropQ_eq, takeQ_eq, revQ_eq, getDQ_eq, optLQ_eq, brecC]
    all_goals rfl
  | cons h_0 t_0 =>
    show (Bool.rec (motive := fun _ => Bool) false (okP I n H' H1 t_0) (Bool.rec (motive := fun _ => Bool) (Nat.blt h_0 n) (sameA (getC H' (ixA h_0 I)) (getC H1 (ixA h_0 I))) (memN h_0 I))) = _
    try simp only [iAddQ_eq, iMulQ_eq, iNegQ_eq, lenQ_eq, nthQ_eq, setQ_eq, appQ_eq, mapQ_eq, allQ_eq, anyQ_eq, dropQ_eq, takeQ_eq, revQ_eq, getDQ_eq, optLQ_eq, brecC]
    all_goals
      cases hq_1 : ((bif (memN h_0 I) then (sameA ((getC H' ((ixA h_0 I)))) ((getC H1 ((ixA h_0 I))))) else (Nat.blt h_0 n))) with
      | false =>
        try dsimp only [cond_false, cond_true]
        all_goals rfl
      | true =>
        try dsimp only [cond_false, cond_true]
        all_goals rfl
noncomputable def prSame (I : List Nat) (n : Nat) (H' H1 : AH) : List PD → List PD :=
  fun e_0 => List.rec (motive := fun _ => List PD) [] (fun h_0 t_0 ih => (Bool.rec (motive := fun _ => List PD) (ih) (h_0 :: (ih)) (okP I n H' H1 h_0.2.1))) e_0 
theorem prSame_def (I : List Nat) (n : Nat) (H' H1 : AH) (e_0 : List PD) : prSame I n H' H1 e_0 = (match e_0 with
  | [] => []
  | p :: r => bif okP I n H' H1 p.2.1 then p :: prSame I n H' H1 r else prSame I n H' H1 r) := by
  cases e_0 with
  | nil =>
    show [] = _
    try simp only [iAddQ_eq, iMulQ_eq, iNegQ_eq, lenQ_eq, nthQ_eq, setQ_eq, appQ_eq, mapQ_eq, allQ_eq, anyQ_eq, dropQ_eq, takeQ_eq, revQ_eq, getDQ_eq, optLQ_eq, brecC]
    all_goals rfl
  | cons h_0 t_0 =>
    show (Bool.rec (motive := fun _ => List PD) (prSame I n H' H1 t_0) (h_0 :: (prSame I n H' H1 t_0)) (okP I n H' H1 h_0.2.1)) = _
    try simp only [iAddQ_eq, iMulQ_eq, iNegQ_eq, lenQ_eq, nthQ_eq, setQ_eq, appQ_eq, mapQ_eq, allQ_eq, anyQ_eq, dropQ_eq, takeQ_eq, revQ_eq, getDQ_eq, optLQ_eq, brecC]
    all_goals
      cases hq_1 : (okP I n H' H1 h_0.2.1) with
      | false =>
        try dsimp only [cond_false, cond_true]
        all_goals rfl
      | true =>
        try dsimp only [cond_false, cond_true]
        all_goals rfl
noncomputable def copyTo (kd : Nat) (ns : List Ln) (c : AC) : List Nat → AH → List PD :=
  fun e_0 e_1 => List.rec (motive := fun _ => AH → List PD) (fun e_1 => []) (fun h_0 t_0 ih e_1 => (List.rec (motive := fun _ => List PD) [] (fun h_2085 H1_2086 _ => (Bool.rec (motive := fun _ => List PD) (ih H1_2086) ((kd, [h_0], ns) :: (ih H1_2086)) (sameA c h_2085))) e_1)) e_0 e_1
theorem copyTo_def (kd : Nat) (ns : List Ln) (c : AC) (e_0 : List Nat) (e_1 : AH) : copyTo kd ns c e_0 e_1 = (match e_0, e_1 with
  | i :: I, h :: H1 => bif sameA c h then (kd, [i], ns) :: copyTo kd ns c I H1 else copyTo kd ns c I H1
  | _, _ => []) := by
  cases e_0 with
  | nil =>
    show [] = _
    try simp only [iAddQ_eq, iMulQ_eq, iNegQ_eq, lenQ_eq, nthQ_eq, setQ_eq, appQ_eq, mapQ_eq, allQ_eq, anyQ_eq, dropQ_eq, takeQ_eq, revQ_eq, getDQ_eq, optLQ_eq, brecC]
    all_goals rfl
  | cons h_0 t_0 =>
    show (List.rec (motive := fun _ => List PD) [] (fun h_2087 H1_2088 _ => (Bool.rec (motive := fun _ => List PD) (copyTo kd ns c t_0 H1_2088) ((kd, [h_0], ns) :: (copyTo kd ns c t_0 H1_2088)) (sameA c h_2087))) e_1) = _
    try simp only [iAddQ_eq, iMulQ_eq, iNegQ_eq, lenQ_eq, nthQ_eq, setQ_eq, appQ_eq, mapQ_eq, allQ_eq, anyQ_eq, dropQ_eq, takeQ_eq, revQ_eq, getDQ_eq, optLQ_eq, brecC]
    all_goals
      cases e_1 with
      | nil =>
        try dsimp only [cond_false, cond_true]
        all_goals rfl
      | cons y_2089 y_2090 =>
        try dsimp only [cond_false, cond_true]
        all_goals
          cases hq_2 : (sameA c y_2089) with
          | false =>
            try dsimp only [cond_false, cond_true]
            all_goals rfl
          | true =>
            try dsimp only [cond_false, cond_true]
            all_goals rfl
noncomputable def prCopy (I : List Nat) (H' H1 : AH) : List PD → List PD :=
  fun e_0 => List.rec (motive := fun _ => List PD) [] (fun h_0 t_0 ih => (List.rec (motive := fun _ => List PD) (ih) (fun q_2091 x_2092 _ => (List.rec (motive := fun _ => List PD) (Bool.rec (motive := fun _ => List PD) (ih) (appQ (copyTo h_0.1 h_0.2.2 (getC H' (ixA q_2091 I)) I H1) (ih)) (memN q_2091 I)) (fun x_2093 x_2094 _ => (ih)) x_2092)) h_0.2.1)) e_0 
theorem prCopy_def (I : List Nat) (H' H1 : AH) (e_0 : List PD) : prCopy I H' H1 e_0 = (match e_0 with
  | [] => []
  | p :: r => match p.2.1 with
    | [q] => bif memN q I then copyTo p.1 p.2.2 (getC H' (ixA q I)) I H1 ++ prCopy I H' H1 r else prCopy I H' H1 r
    | _ => prCopy I H' H1 r) := by
  cases e_0 with
  | nil =>
    show [] = _
    try simp only [iAddQ_eq, iMulQ_eq, iNegQ_eq, lenQ_eq, nthQ_eq, setQ_eq, appQ_eq, mapQ_eq, allQ_eq, anyQ_eq, dropQ_eq, takeQ_eq, revQ_eq, getDQ_eq, optLQ_eq, brecC]
    all_goals rfl
  | cons h_0 t_0 =>
    show (List.rec (motive := fun _ => List PD) (prCopy I H' H1 t_0) (fun q_2095 x_2096 _ => (List.rec (motive := fun _ => List PD) (Bool.rec (motive := fun _ => List PD) (prCopy I H' H1 t_0) (appQ (copyTo h_0.1 h_0.2.2 (getC H' (ixA q_2095 I)) I H1) (prCopy I H' H1 t_0)) (memN q_2095 I)) (fun x_2097 x_2098 _ => (prCopy I H' H1 t_0)) x_2096)) h_0.2.1) = _
    try simp only [iAddQ_eq, iMulQ_eq, iNegQ_eq, lenQ_eq, nthQ_eq, setQ_eq, appQ_eq, mapQ_eq, allQ_eq, anyQ_eq, dropQ_eq, takeQ_eq, revQ_eq, getDQ_eq, optLQ_eq, brecC]
    all_goals
      cases hq_1 : h_0.2.1 with
      | nil =>
        try dsimp only [cond_false, cond_true]
        all_goals rfl
      | cons y_2099 y_2100 =>
        try dsimp only [cond_false, cond_true]
        all_goals
          cases y_2100 with
          | nil =>
            try dsimp only [cond_false, cond_true]
            all_goals
              cases hq_3 : (memN y_2099 I) with
              | false =>
                try dsimp only [cond_false, cond_true]
                all_goals rfl
              | true =>
                try dsimp only [cond_false, cond_true]
                all_goals rfl
          | cons y_2101 y_2102 =>
            try dsimp only [cond_false, cond_true]
            all_goals rfl
noncomputable def prSb (θ : Th) (pr : List PD) : List PD :=
  (mapQ (fun p => (p.1, p.2.1, (mapQ (sbL θ) p.2.2))) pr)
theorem prSb_def (θ : Th) (pr : List PD) : prSb θ pr = pr.map (fun p => (p.1, p.2.1, p.2.2.map (sbL θ))) := by
  show (mapQ (fun p => (p.1, p.2.1, (mapQ (sbL θ) p.2.2))) pr) = _
  try simp only [iAddQ_eq, iMulQ_eq, iNegQ_eq, lenQ_eq, nthQ_eq, setQ_eq, appQ_eq, mapQ_eq, allQ_eq, anyQ_eq, dropQ_eq, takeQ_eq, revQ_eq, getDQ_eq, optLQ_eq, brecC]
  all_goals rfl
noncomputable def outK (k : KK) (pc : Nat) (rest : List AV) (lv : AL) (A : AH) (pr : List PD) (nx : Nat) (ca cb : Nat) (θo : Th) (I : List Nat) (H H' : AH) (pnx : Nat) (o : Ot) (tab2 : Tb) (fs2 : List Ln) (H1 : AH) : Bool :=
  (Bool.rec (motive := fun _ => Bool) false (Bool.rec (motive := fun _ => Bool) false (Bool.rec (motive := fun _ => Bool) false (k (Nat.add pc (nat_lit 3)) (appQ (mapQ (sbV θo) o.1.2.2.2.1) rest) lv (aPaste A I (mapQ (resC nx (lenQ I) H) H1)) (appQ (prSame I (lenQ A) H' H1 pr) (appQ (prCopy I H' H1 pr) (prBack I (lenQ A) (lenQ H1) (prSb θo o.1.2.2.2.2.2)))) (Nat.add (Nat.add nx (lenQ I)) (Nat.sub o.1.1 pnx)) tab2 fs2 (Nat.add ca o.2.1) (Nat.add cb o.2.2)) (Bool.rec (motive := fun _ => Bool) (Bool.rec (motive := fun _ => Bool) false (Nat.blt (Nat.add (lenQ A) (lenQ H1)) sIdx) (allQ (okCA (lenQ A)) A)) true (Nat.beq (lenQ H1) (lenQ I)))) (allQ (okCA (lenQ H1)) H1)) (Nat.ble (lenQ I) (lenQ H1)))
theorem outK_def (k : KK) (pc : Nat) (rest : List AV) (lv : AL) (A : AH) (pr : List PD) (nx : Nat) (ca cb : Nat) (θo : Th) (I : List Nat) (H H' : AH) (pnx : Nat) (o : Ot) (tab2 : Tb) (fs2 : List Ln) (H1 : AH) : outK k pc rest lv A pr nx ca cb θo I H H' pnx o tab2 fs2 H1 = bif Nat.ble I.length H1.length then (bif H1.all (okCA H1.length) then (bif (bif Nat.beq H1.length I.length then true else bif A.all (okCA A.length) then Nat.blt (Nat.add A.length H1.length) sIdx else false) then k (Nat.add pc 3) (o.1.2.2.2.1.map (sbV θo) ++ rest) lv (aPaste A I (H1.map (resC nx I.length H))) (prSame I A.length H' H1 pr ++ (prCopy I H' H1 pr ++ prBack I A.length H1.length (prSb θo o.1.2.2.2.2.2))) (Nat.add (Nat.add nx I.length) (Nat.sub o.1.1 pnx)) tab2 fs2 (Nat.add ca o.2.1) (Nat.add cb o.2.2) else false) else false) else false := by
  show (Bool.rec (motive := fun _ => Bool) false (Bool.rec (motive := fun _ => Bool) false (Bool.rec (motive := fun _ => Bool) false (k (Nat.add pc (nat_lit 3)) (appQ (mapQ (sbV θo) o.1.2.2.2.1) rest) lv (aPaste A I (mapQ (resC nx (lenQ I) H) H1)) (appQ (prSame I (lenQ A) H' H1 pr) (appQ (prCopy I H' H1 pr) (prBack I (lenQ A) (lenQ H1) (prSb θo o.1.2.2.2.2.2)))) (Nat.add (Nat.add nx (lenQ I)) (Nat.sub o.1.1 pnx)) tab2 fs2 (Nat.add ca o.2.1) (Nat.add cb o.2.2)) (Bool.rec (motive := fun _ => Bool) (Bool.rec (motive := fun _ => Bool) false (Nat.blt (Nat.add (lenQ A) (lenQ H1)) sIdx) (allQ (okCA (lenQ A)) A)) true (Nat.beq (lenQ H1) (lenQ I)))) (allQ (okCA (lenQ H1)) H1)) (Nat.ble (lenQ I) (lenQ H1))) = _
  try simp only [iAddQ_eq, iMulQ_eq, iNegQ_eq, lenQ_eq, nthQ_eq, setQ_eq, appQ_eq, mapQ_eq, allQ_eq, anyQ_eq, dropQ_eq, takeQ_eq, revQ_eq, getDQ_eq, optLQ_eq, brecC]
  all_goals
    cases hq_1 : (Nat.ble I.length H1.length) with
    | false =>
      try dsimp only [cond_false, cond_true]
      all_goals rfl
    | true =>
      try dsimp only [cond_false, cond_true]
      all_goals
        cases hq_2 : (H1.all ((okCA H1.length))) with
        | false =>
          try dsimp only [cond_false, cond_true]
          all_goals rfl
        | true =>
          try dsimp only [cond_false, cond_true]
          all_goals
            cases hq_3 : ((bif (Nat.beq H1.length I.length) then true else (bif (A.all ((okCA A.length))) then (Nat.blt ((Nat.add A.length H1.length)) sIdx) else false))) with
            | false =>
              try dsimp only [cond_false, cond_true]
              all_goals rfl
            | true =>
              try dsimp only [cond_false, cond_true]
              all_goals rfl
noncomputable def outA (k : KK) (pc : Nat) (rest : List AV) (lv : AL) (A : AH) (pr : List PD) (nx : Nat) (tab : Tb) (fs : List Ln) (ca cb : Nat) (θ : Th) (I : List Nat) (H H' : AH) (pnx : Nat) (o : Ot) : Bool :=
  (Option.rec (motive := fun _ => Bool) true (fun x_2103 => (Prod.rec (motive := fun _ => Bool) (fun tab1_2104 fs1_2105 => (Option.rec (motive := fun _ => Bool) true (fun x_2106 => (Prod.rec (motive := fun _ => Bool) (fun tab2_2107 fs2_2108 => (outK k pc rest lv A pr nx ca cb (thN θ (Nat.add nx (lenQ I)) pnx) I H H' pnx o tab2_2107 fs2_2108 (mapQ (sbC (thN θ (Nat.add nx (lenQ I)) pnx)) o.1.2.2.2.2.1))) x_2106)) (addF' (thN θ (Nat.add nx (lenQ I)) pnx) o.1.2.2.1 (tbO tab1_2104 (Nat.add nx (lenQ I)) pnx o.1.1 o.1.2.1) fs1_2105))) x_2103)) (addT' θ pnx o.1.2.1 tab fs))
theorem outA_def (k : KK) (pc : Nat) (rest : List AV) (lv : AL) (A : AH) (pr : List PD) (nx : Nat) (tab : Tb) (fs : List Ln) (ca cb : Nat) (θ : Th) (I : List Nat) (H H' : AH) (pnx : Nat) (o : Ot) : outA k pc rest lv A pr nx tab fs ca cb θ I H H' pnx o = (match addT' θ pnx o.1.2.1 tab fs with
  | none => true
  | some (tab1, fs1) => match addF' (thN θ (Nat.add nx I.length) pnx) o.1.2.2.1 (tbO tab1 (Nat.add nx I.length) pnx o.1.1 o.1.2.1) fs1 with
    | none => true
    | some (tab2, fs2) => outK k pc rest lv A pr nx ca cb (thN θ (Nat.add nx I.length) pnx) I H H' pnx o tab2 fs2 (o.1.2.2.2.2.1.map (sbC (thN θ (Nat.add nx I.length) pnx)))) := by
  show (Option.rec (motive := fun _ => Bool) true (fun x_2103 => (Prod.rec (motive := fun _ => Bool) (fun tab1_2104 fs1_2105 => (Option.rec (motive := fun _ => Bool) true (fun x_2106 => (Prod.rec (motive := fun _ => Bool) (fun tab2_2107 fs2_2108 => (outK k pc rest lv A pr nx ca cb (thN θ (Nat.add nx (lenQ I)) pnx) I H H' pnx o tab2_2107 fs2_2108 (mapQ (sbC (thN θ (Nat.add nx (lenQ I)) pnx)) o.1.2.2.2.2.1))) x_2106)) (addF' (thN θ (Nat.add nx (lenQ I)) pnx) o.1.2.2.1 (tbO tab1_2104 (Nat.add nx (lenQ I)) pnx o.1.1 o.1.2.1) fs1_2105))) x_2103)) (addT' θ pnx o.1.2.1 tab fs)) = _
  try simp only [iAddQ_eq, iMulQ_eq, iNegQ_eq, lenQ_eq, nthQ_eq, setQ_eq, appQ_eq, mapQ_eq, allQ_eq, anyQ_eq, dropQ_eq, takeQ_eq, revQ_eq, getDQ_eq, optLQ_eq, brecC]
  all_goals
    cases hq_1 : (addT' θ pnx o.1.2.1 tab fs) with
    | none =>
      try dsimp only [cond_false, cond_true]
      all_goals rfl
    | some y_2109 =>
      try dsimp only [cond_false, cond_true]
      all_goals
        cases y_2109 with
        | mk y_2110 y_2111 =>
          try dsimp only [cond_false, cond_true]
          all_goals
            cases hq_3 : (addF' ((thN θ ((Nat.add nx I.length)) pnx)) o.1.2.2.1 ((tbO y_2110 ((Nat.add nx I.length)) pnx o.1.1 o.1.2.1)) y_2111) with
            | none =>
              try dsimp only [cond_false, cond_true]
              all_goals rfl
            | some y_2112 =>
              try dsimp only [cond_false, cond_true]
              all_goals
                cases y_2112 with
                | mk y_2113 y_2114 =>
                  try dsimp only [cond_false, cond_true]
                  all_goals rfl
noncomputable def outAll (k : Ot → Bool) : List Ot → Bool :=
  fun e_0 => List.rec (motive := fun _ => Bool) true (fun h_0 t_0 ih => (Bool.rec (motive := fun _ => Bool) false (ih) (k h_0))) e_0 
theorem outAll_def (k : Ot → Bool) (e_0 : List Ot) : outAll k e_0 = (match e_0 with
  | [] => true
  | o :: r => bif k o then outAll k r else false) := by
  cases e_0 with
  | nil =>
    show true = _
    try simp only [iAddQ_eq, iMulQ_eq, iNegQ_eq, lenQ_eq, nthQ_eq, setQ_eq, appQ_eq, mapQ_eq, allQ_eq, anyQ_eq, dropQ_eq, takeQ_eq, revQ_eq, getDQ_eq, optLQ_eq, brecC]
    all_goals rfl
  | cons h_0 t_0 =>
    show (Bool.rec (motive := fun _ => Bool) false (outAll k t_0) (k h_0)) = _
    try simp only [iAddQ_eq, iMulQ_eq, iNegQ_eq, lenQ_eq, nthQ_eq, setQ_eq, appQ_eq, mapQ_eq, allQ_eq, anyQ_eq, dropQ_eq, takeQ_eq, revQ_eq, getDQ_eq, optLQ_eq, brecC]
    all_goals
      cases hq_1 : (k h_0) with
      | false =>
        try dsimp only [cond_false, cond_true]
        all_goals rfl
      | true =>
        try dsimp only [cond_false, cond_true]
        all_goals rfl
noncomputable def oneCt (k : KK) (pc : Nat) (as' : List AV) (H : AH) (pr' : List PD) (rest : List AV) (lv : AL) (A : AH) (pr : List PD) (nx : Nat) (tab : Tb) (fs : List Ln) (ca cb : Nat) (I : List Nat) (C : Ct) (H' : AH) (θ : Th) : Option Bool :=
  (Bool.rec (motive := fun _ => Option Bool) none (some (Bool.rec (motive := fun _ => _) false (outAll (outA k pc rest lv A pr nx tab fs ca cb θ I H H' C.2.2.1.1) C.2.2.2) (loopJ (fun s => (scL (Nat.add nx (lenQ I)) (θ s))) C.2.2.1.1 (nat_lit 0)))) (instP tab fs θ C.2.2.1 as' H' pr'))
theorem oneCt_def (k : KK) (pc : Nat) (as' : List AV) (H : AH) (pr' : List PD) (rest : List AV) (lv : AL) (A : AH) (pr : List PD) (nx : Nat) (tab : Tb) (fs : List Ln) (ca cb : Nat) (I : List Nat) (C : Ct) (H' : AH) (θ : Th) : oneCt k pc as' H pr' rest lv A pr nx tab fs ca cb I C H' θ = bif instP tab fs θ C.2.2.1 as' H' pr' then some (bif loopJ (fun s => scL (Nat.add nx I.length) (θ s)) C.2.2.1.1 0 then outAll (outA k pc rest lv A pr nx tab fs ca cb θ I H H' C.2.2.1.1) C.2.2.2 else false) else none := by
  show (Bool.rec (motive := fun _ => Option Bool) none (some (Bool.rec (motive := fun _ => _) false (outAll (outA k pc rest lv A pr nx tab fs ca cb θ I H H' C.2.2.1.1) C.2.2.2) (loopJ (fun s => (scL (Nat.add nx (lenQ I)) (θ s))) C.2.2.1.1 (nat_lit 0)))) (instP tab fs θ C.2.2.1 as' H' pr')) = _
  try simp only [iAddQ_eq, iMulQ_eq, iNegQ_eq, lenQ_eq, nthQ_eq, setQ_eq, appQ_eq, mapQ_eq, allQ_eq, anyQ_eq, dropQ_eq, takeQ_eq, revQ_eq, getDQ_eq, optLQ_eq, brecC]
  all_goals
    cases hq_1 : (instP tab fs θ C.2.2.1 as' H' pr') with
    | false =>
      try dsimp only [cond_false, cond_true]
      all_goals rfl
    | true =>
      try dsimp only [cond_false, cond_true]
      all_goals rfl
noncomputable def withFO (θ : Un) (k : Th → Option Bool) : Option Bool :=
  (Prod.rec (motive := fun _ => Option Bool) (fun x_2115 x_2116 => (Prod.rec (motive := fun _ => Option Bool) (fun f_2117 x_2118 => (k f_2117)) x_2116)) (balF (nat_lit 9) θ.2))
theorem withFO_def (θ : Un) (k : Th → Option Bool) : withFO θ k = (match balF 9 θ.2 with
  | (_, f, _) => k f) := by
  show (Prod.rec (motive := fun _ => Option Bool) (fun x_2115 x_2116 => (Prod.rec (motive := fun _ => Option Bool) (fun f_2117 x_2118 => (k f_2117)) x_2116)) (balF (nat_lit 9) θ.2)) = _
  all_goals
    cases hq_1 : (balF 9 θ.2) with
    | mk y_2119 y_2120 =>
      try dsimp only [cond_false, cond_true]
      all_goals
        cases y_2120 with
        | mk y_2121 y_2122 =>
          try dsimp only [cond_false, cond_true]
          all_goals rfl
noncomputable def tryCt (k : KK) (pc : Nat) (as' : List AV) (H : AH) (pr' : List PD) (rest : List AV) (lv : AL) (A : AH) (pr : List PD) (nx : Nat) (tab : Tb) (fs : List Ln) (ca cb : Nat) (I : List Nat) (C : Ct) (H' : AH) : Option Bool :=
  (withFO (thOf tab fs C.2.2.1 as' H' pr') (oneCt k pc as' H pr' rest lv A pr nx tab fs ca cb I C H'))
theorem tryCt_def (k : KK) (pc : Nat) (as' : List AV) (H : AH) (pr' : List PD) (rest : List AV) (lv : AL) (A : AH) (pr : List PD) (nx : Nat) (tab : Tb) (fs : List Ln) (ca cb : Nat) (I : List Nat) (C : Ct) (H' : AH) : tryCt k pc as' H pr' rest lv A pr nx tab fs ca cb I C H' = withFO (thOf tab fs C.2.2.1 as' H' pr') (oneCt k pc as' H pr' rest lv A pr nx tab fs ca cb I C H') := by
  show (withFO (thOf tab fs C.2.2.1 as' H' pr') (oneCt k pc as' H pr' rest lv A pr nx tab fs ca cb I C H')) = _
  all_goals rfl
noncomputable def callCt (k : KK) (pc a : Nat) (as' : List AV) (H : AH) (pr' : List PD) (rest : List AV) (lv : AL) (A : AH) (pr : List PD) (nx : Nat) (tab : Tb) (fs : List Ln) (ca cb : Nat) (I : List Nat) : List Ct → Bool :=
  fun e_0 => List.rec (motive := fun _ => Bool) false (fun h_0 t_0 ih => (Bool.rec (motive := fun _ => Bool) (ih) (Option.rec (motive := fun _ => Bool) (ih) (fun b_2123 => b_2123) (tryCt k pc as' H pr' rest lv A pr nx tab fs ca cb I h_0 (convH nx (nat_lit 0) h_0.2.2.1.2.2.2.2.1 H))) (Nat.beq h_0.1 a))) e_0 
theorem callCt_def (k : KK) (pc a : Nat) (as' : List AV) (H : AH) (pr' : List PD) (rest : List AV) (lv : AL) (A : AH) (pr : List PD) (nx : Nat) (tab : Tb) (fs : List Ln) (ca cb : Nat) (I : List Nat) (e_0 : List Ct) : callCt k pc a as' H pr' rest lv A pr nx tab fs ca cb I e_0 = (match e_0 with
  | [] => false
  | C :: r => bif Nat.beq C.1 a then (match tryCt k pc as' H pr' rest lv A pr nx tab fs ca cb I C (convH nx 0 C.2.2.1.2.2.2.2.1 H) with
    | some b => b
    | none => callCt k pc a as' H pr' rest lv A pr nx tab fs ca cb I r) else callCt k pc a as' H pr' rest lv A pr nx tab fs ca cb I r) := by
  cases e_0 with
  | nil =>
    show false = _
    try simp only [iAddQ_eq, iMulQ_eq, iNegQ_eq, lenQ_eq, nthQ_eq, setQ_eq, appQ_eq, mapQ_eq, allQ_eq, anyQ_eq, dropQ_eq, takeQ_eq, revQ_eq, getDQ_eq, optLQ_eq, brecC]
    all_goals rfl
  | cons h_0 t_0 =>
    show (Bool.rec (motive := fun _ => Bool) (callCt k pc a as' H pr' rest lv A pr nx tab fs ca cb I t_0) (Option.rec (motive := fun _ => Bool) (callCt k pc a as' H pr' rest lv A pr nx tab fs ca cb I t_0) (fun b_2124 => b_2124) (tryCt k pc as' H pr' rest lv A pr nx tab fs ca cb I h_0 (convH nx (nat_lit 0) h_0.2.2.1.2.2.2.2.1 H))) (Nat.beq h_0.1 a)) = _
    try simp only [iAddQ_eq, iMulQ_eq, iNegQ_eq, lenQ_eq, nthQ_eq, setQ_eq, appQ_eq, mapQ_eq, allQ_eq, anyQ_eq, dropQ_eq, takeQ_eq, revQ_eq, getDQ_eq, optLQ_eq, brecC]
    all_goals
      cases hq_1 : (Nat.beq h_0.1 a) with
      | false =>
        try dsimp only [cond_false, cond_true]
        all_goals rfl
      | true =>
        try dsimp only [cond_false, cond_true]
        all_goals
          cases hq_2 : (tryCt k pc as' H pr' rest lv A pr nx tab fs ca cb I h_0 ((convH nx 0 h_0.2.2.1.2.2.2.2.1 H))) with
          | none =>
            try dsimp only [cond_false, cond_true]
            all_goals rfl
          | some y_2125 =>
            try dsimp only [cond_false, cond_true]
            all_goals rfl
noncomputable def isClsA (me : ME) (as : List AV) (A : AH) : Bool := match mKd me, as with
  | 0, .inr (.inl (some q)) :: _ => match A[q]? with
    | some (.inl (ci, _)) => bif Nat.beq ci (mOw me) then Nat.blt ci 13 else false
    | _ => false
  | 1, .inr (.inl (some _)) :: _ => true
  | 2, _ => true
  | _, _ => false
noncomputable def g7 (env : List Ct) (k : KK) (i : Instr) (a b pc : Nat) (st : List AV) (lv : AL) (A : AH) (pr : List PD) (nx : Nat) (tab : Tb) (fs : List Ln) (ca cb : Nat) : Bool :=
  bif isCall i then (match meths[a]? with
  | none => false
  | some me => bif Nat.ble b st.length then (bif Nat.ble (((st.drop b).map catA).sum) 8 then (bif (st.drop b).all (okVA A.length) then
    (fun (as : List AV) => bif isClsA me as A then (match aCut A as with
    | none => false
    | some I => callCt k pc a (as.map (mpV (fun j => ixA j I))) (aSubH A I) (prIn I pr) (st.drop b) lv A pr nx tab fs ca cb I env) else false) ((st.take b).reverse) else false) else false) else false) else false
abbrev FN : Type := Option AV → AH → List PD → Tb → List Ln → Nat → Nat → Bool
noncomputable def g6 (fin : FN) (i : Instr) (st : List AV) (A : AH) (pr : List PD) (tab : Tb) (fs : List Ln) (ca cb : Nat) : Bool := match i with
  | .ireturn => match st with
    | [.inl (false, e)] => fin (some (.inl (false, e))) A pr tab fs ca cb
    | _ => false
  | .lreturn => match st with
    | [.inl (true, e)] => fin (some (.inl (true, e))) A pr tab fs ca cb
    | _ => false
  | .return_ => match st with
    | [] => fin none A pr tab fs ca cb
    | _ => false
  | _ => false
noncomputable def st0 (i : Instr) (n a : Nat) (k : KK) (st : List AV) (lv : AL) (A : AH) (pr : List PD) (nx : Nat) (tab : Tb) (fs : List Ln) (ca cb : Nat) : Bool := match g0 i a tab fs lv st with
  | some (rest, r) => pushR nx tab fs r (fun nx tab fs v => k n (v :: rest) lv A pr nx tab fs ca cb)
  | none => false
noncomputable def st1 (i : Instr) (n nL : Nat) (k : KK) (st : List AV) (lv : AL) (A : AH) (pr : List PD) (nx : Nat) (tab : Tb) (fs : List Ln) (ca cb : Nat) : Bool := match i with
  | .iinc x m => (match alGet x lv with
    | some (.inl (false, e)) => bif Nat.blt x nL then (bif leI lo32 m then (bif leI m hi32 then pushR nx tab fs (.inr (false, fitIF tab fs (pluL e m))) (fun nx tab fs v => k n st ((x, v) :: alDel false x lv) A pr nx tab fs ca cb) else false) else false) else false
    | _ => false)
  | _ => match g1 i nL A.length st lv with
    | some (rest, lv') => k n rest lv' A pr nx tab fs ca cb
    | none => false
/-- an element that is told -/
noncomputable def findE (tab : Tb) (fs : List Ln) (q : Nat) (e : Ln) : List PD → Option Ln :=
  fun e_0 => List.rec (motive := fun _ => Option Ln) none (fun h_0 t_0 ih => (Bool.rec (motive := fun _ => Option Ln) (ih) (List.rec (motive := fun _ => Option Ln) (ih) (fun q_2126 x_2127 _ => (List.rec (motive := fun _ => Option Ln) (List.rec (motive := fun _ => Option Ln) (ih) (fun e_2130 x_2131 _ => (List.rec (motive := fun _ => Option Ln) (ih) (fun v_2132 x_2133 _ => (List.rec (motive := fun _ => Option Ln) (Bool.rec (motive := fun _ => Option Ln) (ih) (Bool.rec (motive := fun _ => Option Ln) (ih) (some v_2132) (eqL tab fs e e_2130)) (Nat.beq q q_2126)) (fun x_2134 x_2135 _ => (ih)) x_2133)) x_2131)) h_0.2.2) (fun x_2128 x_2129 _ => (ih)) x_2127)) h_0.2.1) (Nat.beq h_0.1 (nat_lit 7)))) e_0 
theorem findE_def (tab : Tb) (fs : List Ln) (q : Nat) (e : Ln) (e_0 : List PD) : findE tab fs q e e_0 = (match e_0 with
  | [] => none
  | p :: r => bif Nat.beq p.1 7 then (match p.2.1, p.2.2 with
    | [q'], [e', v] => bif Nat.beq q q' then (bif eqL tab fs e e' then some v else findE tab fs q e r) else findE tab fs q e r
    | _, _ => findE tab fs q e r) else findE tab fs q e r) := by
  cases e_0 with
  | nil =>
    show none = _
    try simp only [iAddQ_eq, iMulQ_eq, iNegQ_eq, lenQ_eq, nthQ_eq, setQ_eq, appQ_eq, mapQ_eq, allQ_eq, anyQ_eq, dropQ_eq, takeQ_eq, revQ_eq, getDQ_eq, optLQ_eq, brecC]
    all_goals rfl
  | cons h_0 t_0 =>
    show (Bool.rec (motive := fun _ => Option Ln) (findE tab fs q e t_0) (List.rec (motive := fun _ => Option Ln) (findE tab fs q e t_0) (fun q_2136 x_2137 _ => (List.rec (motive := fun _ => Option Ln) (List.rec (motive := fun _ => Option Ln) (findE tab fs q e t_0) (fun e_2140 x_2141 _ => (List.rec (motive := fun _ => Option Ln) (findE tab fs q e t_0) (fun v_2142 x_2143 _ => (List.rec (motive := fun _ => Option Ln) (Bool.rec (motive := fun _ => Option Ln) (findE tab fs q e t_0) (Bool.rec (motive := fun _ => Option Ln) (findE tab fs q e t_0) (some v_2142) (eqL tab fs e e_2140)) (Nat.beq q q_2136)) (fun x_2144 x_2145 _ => (findE tab fs q e t_0)) x_2143)) x_2141)) h_0.2.2) (fun x_2138 x_2139 _ => (findE tab fs q e t_0)) x_2137)) h_0.2.1) (Nat.beq h_0.1 (nat_lit 7))) = _
    try simp only [iAddQ_eq, iMulQ_eq, iNegQ_eq, lenQ_eq, nthQ_eq, setQ_eq, appQ_eq, mapQ_eq, allQ_eq, anyQ_eq, dropQ_eq, takeQ_eq, revQ_eq, getDQ_eq, optLQ_eq, brecC]
    all_goals
      cases hq_1 : (Nat.beq h_0.1 7) with
      | false =>
        try dsimp only [cond_false, cond_true]
        all_goals rfl
      | true =>
        try dsimp only [cond_false, cond_true]
        all_goals
          cases hq_2 : h_0.2.1 with
          | nil =>
            try dsimp only [cond_false, cond_true]
            all_goals rfl
          | cons y_2146 y_2147 =>
            try dsimp only [cond_false, cond_true]
            all_goals
              cases y_2147 with
              | nil =>
                try dsimp only [cond_false, cond_true]
                all_goals
                  cases hq_4 : h_0.2.2 with
                  | nil =>
                    try dsimp only [cond_false, cond_true]
                    all_goals rfl
                  | cons y_2148 y_2149 =>
                    try dsimp only [cond_false, cond_true]
                    all_goals
                      cases y_2149 with
                      | nil =>
                        try dsimp only [cond_false, cond_true]
                        all_goals rfl
                      | cons y_2150 y_2151 =>
                        try dsimp only [cond_false, cond_true]
                        all_goals
                          cases y_2151 with
                          | nil =>
                            try dsimp only [cond_false, cond_true]
                            all_goals
                              cases hq_7 : (Nat.beq q y_2146) with
                              | false =>
                                try dsimp only [cond_false, cond_true]
                                all_goals rfl
                              | true =>
                                try dsimp only [cond_false, cond_true]
                                all_goals
                                  cases hq_8 : (eqL tab fs e y_2148) with
                                  | false =>
                                    try dsimp only [cond_false, cond_true]
                                    all_goals rfl
                                  | true =>
                                    try dsimp only [cond_false, cond_true]
                                    all_goals rfl
                          | cons y_2152 y_2153 =>
                            try dsimp only [cond_false, cond_true]
                            all_goals rfl
              | cons y_2154 y_2155 =>
                try dsimp only [cond_false, cond_true]
                all_goals rfl
noncomputable def prLd (tab : Tb) (fs : List Ln) (A : AH) (pr : List PD) (st : List AV) : Option SV :=
  (List.rec (motive := fun _ => Option SV) none (fun x_2156 x_2157 _ => (Sum.rec (motive := fun _ => Option SV) (fun x_2158 => (Prod.rec (motive := fun _ => Option SV) (fun x_2160 e_2161 => (Bool.rec (motive := fun _ => Option SV) (List.rec (motive := fun _ => Option SV) none (fun x_2162 r_2163 _ => (Sum.rec (motive := fun _ => Option SV) (fun x_2164 => none) (fun x_2165 => (Sum.rec (motive := fun _ => Option SV) (fun x_2166 => (Option.rec (motive := fun _ => Option SV) none (fun q_2168 => (Option.rec (motive := fun _ => Option SV) none (fun x_2169 => (Sum.rec (motive := fun _ => Option SV) (fun x_2170 => none) (fun x_2171 => (Prod.rec (motive := fun _ => Option SV) (fun k_2172 x_2173 => (Sum.rec (motive := fun _ => Option SV) (fun s_2174 => (Bool.rec (motive := fun _ => Option SV) none (Option.rec (motive := fun _ => Option SV) none (fun v_2176 => (Option.rec (motive := fun _ => Option SV) none (fun x_2177 => (Prod.rec (motive := fun _ => Option SV) (fun x_2178 u_2179 => (Bool.rec (motive := fun _ => Option SV) none (some (r_2163, (.inl (.inl (false, v_2176))))) (Nat.blt u_2179 (sgLen s_2174)))) x_2177)) (idxR tab fs e_2161))) (findE tab fs q_2168 e_2161 pr)) (Nat.beq k_2172 (nat_lit 0)))) (fun x_2175 => none) x_2173)) x_2171)) x_2169)) (nthQ A q_2168))) x_2166)) (fun x_2167 => none) x_2165)) x_2162)) x_2157) none x_2160)) x_2158)) (fun x_2159 => none) x_2156)) st)
theorem prLd_def (tab : Tb) (fs : List Ln) (A : AH) (pr : List PD) (st : List AV) : prLd tab fs A pr st = (match st with
  | .inl (false, e) :: .inr (.inl (some q)) :: r => (match A[q]? with
    | some (.inr (k, .inl s)) => bif Nat.beq k 0 then (match findE tab fs q e pr with
      | some v => (match idxR tab fs e with
        | some (_, u) => bif Nat.blt u (sgLen s) then some (r, .inl (.inl (false, v))) else none
        | none => none)
      | none => none) else none
    | _ => none)
  | _ => none) := by
  show (List.rec (motive := fun _ => Option SV) none (fun x_2156 x_2157 _ => (Sum.rec (motive := fun _ => Option SV) (fun x_2158 => (Prod.rec (motive := fun _ => Option SV) (fun x_2160 e_2161 => (Bool.rec (motive := fun _ => Option SV) (List.rec (motive := fun _ => Option SV) none (fun x_2162 r_2163 _ => (Sum.rec (motive := fun _ => Option SV) (fun x_2164 => none) (fun x_2165 => (Sum.rec (motive := fun _ => Option SV) (fun x_2166 => (Option.rec (motive := fun _ => Option SV) none (fun q_2168 => (Option.rec (motive := fun _ => Option SV) none (fun x_2169 => (Sum.rec (motive := fun _ => Option SV) (fun x_2170 => none) (fun x_2171 => (Prod.rec (motive := fun _ => Option SV) (fun k_2172 x_2173 => (Sum.rec (motive := fun _ => Option SV) (fun s_2174 => (Bool.rec (motive := fun _ => Option SV) none (Option.rec (motive := fun _ => Option SV) none (fun v_2176 => (Option.rec (motive := fun _ => Option SV) none (fun x_2177 => (Prod.rec (motive := fun _ => Option SV) (fun x_2178 u_2179 => (Bool.rec (motive := fun _ => Option SV) none (some (r_2163, (.inl (.inl (false, v_2176))))) (Nat.blt u_2179 (sgLen s_2174)))) x_2177)) (idxR tab fs e_2161))) (findE tab fs q_2168 e_2161 pr)) (Nat.beq k_2172 (nat_lit 0)))) (fun x_2175 => none) x_2173)) x_2171)) x_2169)) (nthQ A q_2168))) x_2166)) (fun x_2167 => none) x_2165)) x_2162)) x_2157) none x_2160)) x_2158)) (fun x_2159 => none) x_2156)) st) = _
  try simp only [iAddQ_eq, iMulQ_eq, iNegQ_eq, lenQ_eq, nthQ_eq, setQ_eq, appQ_eq, mapQ_eq, allQ_eq, anyQ_eq, dropQ_eq, takeQ_eq, revQ_eq, getDQ_eq, optLQ_eq, brecC]
  all_goals
    cases st with
    | nil =>
      try dsimp only [cond_false, cond_true]
      all_goals rfl
    | cons y_2180 y_2181 =>
      try dsimp only [cond_false, cond_true]
      all_goals
        cases y_2180 with
        | inl y_2182 =>
          try dsimp only [cond_false, cond_true]
          all_goals
            cases y_2182 with
            | mk y_2183 y_2184 =>
              try dsimp only [cond_false, cond_true]
              all_goals
                cases y_2183 with
                | false =>
                  try dsimp only [cond_false, cond_true]
                  all_goals
                    cases y_2181 with
                    | nil =>
                      try dsimp only [cond_false, cond_true]
                      all_goals rfl
                    | cons y_2185 y_2186 =>
                      try dsimp only [cond_false, cond_true]
                      all_goals
                        cases y_2185 with
                        | inl y_2187 =>
                          try dsimp only [cond_false, cond_true]
                          all_goals rfl
                        | inr y_2188 =>
                          try dsimp only [cond_false, cond_true]
                          all_goals
                            cases y_2188 with
                            | inl y_2189 =>
                              try dsimp only [cond_false, cond_true]
                              all_goals
                                cases y_2189 with
                                | none =>
                                  try dsimp only [cond_false, cond_true]
                                  all_goals rfl
                                | some y_2190 =>
                                  try dsimp only [cond_false, cond_true]
                                  all_goals
                                    cases hq_9 : A[y_2190]? with
                                    | none =>
                                      try dsimp only [cond_false, cond_true]
                                      all_goals rfl
                                    | some y_2191 =>
                                      try dsimp only [cond_false, cond_true]
                                      all_goals
                                        cases y_2191 with
                                        | inl y_2192 =>
                                          try dsimp only [cond_false, cond_true]
                                          all_goals rfl
                                        | inr y_2193 =>
                                          try dsimp only [cond_false, cond_true]
                                          all_goals
                                            cases y_2193 with
                                            | mk y_2194 y_2195 =>
                                              try dsimp only [cond_false, cond_true]
                                              all_goals
                                                cases y_2195 with
                                                | inl y_2196 =>
                                                  try dsimp only [cond_false, cond_true]
                                                  all_goals
                                                    cases hq_13 : (Nat.beq y_2194 0) with
                                                    | false =>
                                                      try dsimp only [cond_false, cond_true]
                                                      all_goals rfl
                                                    | true =>
                                                      try dsimp only [cond_false, cond_true]
                                                      all_goals
                                                        cases hq_14 : (findE tab fs y_2190 y_2184 pr) with
                                                        | none =>
                                                          try dsimp only [cond_false, cond_true]
                                                          all_goals rfl
                                                        | some y_2197 =>
                                                          try dsimp only [cond_false, cond_true]
                                                          all_goals
                                                            cases hq_15 : (idxR tab fs y_2184) with
                                                            | none =>
                                                              try dsimp only [cond_false, cond_true]
                                                              all_goals rfl
                                                            | some y_2198 =>
                                                              try dsimp only [cond_false, cond_true]
                                                              all_goals
                                                                cases y_2198 with
                                                                | mk y_2199 y_2200 =>
                                                                  try dsimp only [cond_false, cond_true]
                                                                  all_goals
                                                                    cases hq_17 : (Nat.blt y_2200 ((sgLen y_2196))) with
                                                                    | false =>
                                                                      try dsimp only [cond_false, cond_true]
                                                                      all_goals rfl
                                                                    | true =>
                                                                      try dsimp only [cond_false, cond_true]
                                                                      all_goals rfl
                                                | inr y_2201 =>
                                                  try dsimp only [cond_false, cond_true]
                                                  all_goals rfl
                            | inr y_2202 =>
                              try dsimp only [cond_false, cond_true]
                              all_goals rfl
                | true =>
                  try dsimp only [cond_false, cond_true]
                  all_goals rfl
        | inr y_2203 =>
          try dsimp only [cond_false, cond_true]
          all_goals rfl
noncomputable def st3g (scl : Option SL) (i : Instr) (n a b : Nat) (k : KK) (st : List AV) (lv : AL) (A : AH) (pr : List PD) (nx : Nat) (tab : Tb) (fs : List Ln) (ca cb : Nat) : Bool := match g3 scl i a b tab fs A st with
  | some (rest, r) => pushR nx tab fs r (fun nx tab fs v => k n (v :: rest) lv A pr nx tab fs ca cb)
  | none => false
noncomputable def st3l (scl : Option SL) (n a b : Nat) (k : KK) (st : List AV) (lv : AL) (A : AH) (pr : List PD) (nx : Nat) (tab : Tb) (fs : List Ln) (ca cb : Nat) : Bool := match scl with
  | none => (match prLd tab fs A pr st with
    | some (rest, r) => pushR nx tab fs r (fun nx tab fs v => k n (v :: rest) lv A pr nx tab fs ca cb)
    | none => st3g none .iaload n a b k st lv A pr nx tab fs ca cb)
  | some s => st3g (some s) .iaload n a b k st lv A pr nx tab fs ca cb
noncomputable def st3 (scl : Option SL) (i : Instr) (n a b : Nat) (k : KK) (st : List AV) (lv : AL) (A : AH) (pr : List PD) (nx : Nat) (tab : Tb) (fs : List Ln) (ca cb : Nat) : Bool := match i with
  | .aaload => aaL (fun st tab fs => k n st lv A pr nx tab fs ca cb) tab fs A st
  | .iaload => st3l scl n a b k st lv A pr nx tab fs ca cb
  | i => st3g scl i n a b k st lv A pr nx tab fs ca cb
noncomputable def st4 (ini : Bool) (o : Nat) (i : Instr) (n a b : Nat) (k : KK) (st : List AV) (lv : AL) (A : AH) (pr : List PD) (nx : Nat) (tab : Tb) (fs : List Ln) (ca cb : Nat) : Bool := match g4 ini o i a b tab fs A pr st with
  | some (rest, A', pr') => k n rest lv A' pr' nx tab fs ca cb
  | none => false
noncomputable def step (scl : Option SL) (ini : Bool) (o nL : Nat) (env : List Ct) (fin : FN) (k : KK) (e : XE) (pc : Nat) (st : List AV) (lv : AL) (A : AH) (pr : List PD) (nx : Nat) (tab : Tb) (fs : List Ln) (ca cb : Nat) : Bool := match e with
  | (i, len, g, a, b, _) => match g with
    | 0 => st0 i (Nat.add pc len) a k st lv A pr nx tab fs ca cb
    | 1 => st1 i (Nat.add pc len) nL k st lv A pr nx tab fs ca cb
    | 2 => g2 (fun t st tab fs => k t st lv A pr nx tab fs ca cb) i pc tab fs st
    | 3 => st3 scl i (Nat.add pc len) a b k st lv A pr nx tab fs ca cb
    | 4 => st4 ini o i (Nat.add pc len) a b k st lv A pr nx tab fs ca cb
    | 5 => match g5 i a tab fs A st with
      | some (rest, A', dc, ds) => bif prB A.length pr then k (Nat.add pc len) rest lv A' pr nx tab fs (Nat.add ca dc) (Nat.add cb ds) else false
      | none => false
    | 6 => g6 fin i st A pr tab fs ca cb
    | 7 => g7 env k i a b pc st lv A pr nx tab fs ca cb
    | _ => false
/-- a hint: at a place, the states that together cover this one (the machine's state stays) -/
abbrev HR : Type := AH × List PD × Nat × Tb × List Ln
abbrev HF : Type := Nat → AL → AH → List PD → Nat → Tb → List Ln → Option (List HR)
/-- a macro: many steps of the machine at once -/
abbrev MR : Type := Nat × AL × AH × List PD × Nat × Tb × List Ln
abbrev MC : Type := Nat → List (List (Option XE)) → Nat → List AV → AL → AH → List PD → Nat → Tb → List Ln → Option MR
/-- hints, macros, where points are (a bit a place), where hints and macros are, how many symbols stay the entry's -/
abbrev HN : Type := HF × MC × Nat × Nat × Nat
noncomputable def isPt (m pc : Nat) : Bool :=
  (Nat.beq (Nat.land (Nat.shiftRight m pc) (nat_lit 1)) (nat_lit 1))
theorem isPt_def (m pc : Nat) : isPt m pc = Nat.beq (Nat.land (Nat.shiftRight m pc) 1) 1 := by
  show (Nat.beq (Nat.land (Nat.shiftRight m pc) (nat_lit 1)) (nat_lit 1)) = _
  all_goals rfl
noncomputable def noF : HF := fun _ _ _ _ _ _ _ => none
noncomputable def noM : MC := fun _ _ _ _ _ _ _ _ _ _ => none
noncomputable def noH : HN := (noF, noM, 0, 0, 0)
noncomputable def macAt (scl : Option SL) (mc : MC) (nL : Nat) (tb : List (List (Option XE))) (pc : Nat) (st : List AV) (lv : AL) (A : AH) (pr : List PD) (nx : Nat) (tab : Tb) (fs : List Ln) : Option MR := match scl with
  | none => mc nL tb pc st lv A pr nx tab fs
  | some _ => none
noncomputable def macG (m : Nat) (scl : Option SL) (mc : MC) (nL : Nat) (tb : List (List (Option XE))) (pc : Nat) (st : List AV) (lv : AL) (A : AH) (pr : List PD) (nx : Nat) (tab : Tb) (fs : List Ln) : Option MR :=
  (Bool.rec (motive := fun _ => Option MR) none (macAt scl mc nL tb pc st lv A pr nx tab fs) (isPt m pc))
theorem macG_def (m : Nat) (scl : Option SL) (mc : MC) (nL : Nat) (tb : List (List (Option XE))) (pc : Nat) (st : List AV) (lv : AL) (A : AH) (pr : List PD) (nx : Nat) (tab : Tb) (fs : List Ln) : macG m scl mc nL tb pc st lv A pr nx tab fs = bif isPt m pc then macAt scl mc nL tb pc st lv A pr nx tab fs else none := by
  show (Bool.rec (motive := fun _ => Option MR) none (macAt scl mc nL tb pc st lv A pr nx tab fs) (isPt m pc)) = _
  try simp only [iAddQ_eq, iMulQ_eq, iNegQ_eq, lenQ_eq, nthQ_eq, setQ_eq, appQ_eq, mapQ_eq, allQ_eq, anyQ_eq, dropQ_eq, takeQ_eq, revQ_eq, getDQ_eq, optLQ_eq, brecC]
  all_goals
    cases hq_1 : (isPt m pc) with
    | false =>
      try dsimp only [cond_false, cond_true]
      all_goals rfl
    | true =>
      try dsimp only [cond_false, cond_true]
      all_goals rfl
noncomputable def hinG (m : Nat) (f : HF) (pc : Nat) (lv : AL) (A : AH) (pr : List PD) (nx : Nat) (tab : Tb) (fs : List Ln) : Option (List HR) :=
  (Bool.rec (motive := fun _ => Option (List HR)) none (f pc lv A pr nx tab fs) (isPt m pc))
theorem hinG_def (m : Nat) (f : HF) (pc : Nat) (lv : AL) (A : AH) (pr : List PD) (nx : Nat) (tab : Tb) (fs : List Ln) : hinG m f pc lv A pr nx tab fs = bif isPt m pc then f pc lv A pr nx tab fs else none := by
  show (Bool.rec (motive := fun _ => Option (List HR)) none (f pc lv A pr nx tab fs) (isPt m pc)) = _
  try simp only [iAddQ_eq, iMulQ_eq, iNegQ_eq, lenQ_eq, nthQ_eq, setQ_eq, appQ_eq, mapQ_eq, allQ_eq, anyQ_eq, dropQ_eq, takeQ_eq, revQ_eq, getDQ_eq, optLQ_eq, brecC]
  all_goals
    cases hq_1 : (isPt m pc) with
    | false =>
      try dsimp only [cond_false, cond_true]
      all_goals rfl
    | true =>
      try dsimp only [cond_false, cond_true]
      all_goals rfl
noncomputable def hAll (k : AH → List PD → Nat → Tb → List Ln → Bool) : List HR → Bool :=
  fun e_0 => List.rec (motive := fun _ => Bool) true (fun h_0 t_0 ih => (Prod.rec (motive := fun _ => Bool) (fun A_2204 x_2205 => (Prod.rec (motive := fun _ => Bool) (fun pr_2206 x_2207 => (Prod.rec (motive := fun _ => Bool) (fun nx_2208 x_2209 => (Prod.rec (motive := fun _ => Bool) (fun tab_2210 fs_2211 => (Bool.rec (motive := fun _ => Bool) false (ih) (k A_2204 pr_2206 nx_2208 tab_2210 fs_2211))) x_2209)) x_2207)) x_2205)) h_0)) e_0 
theorem hAll_def (k : AH → List PD → Nat → Tb → List Ln → Bool) (e_0 : List HR) : hAll k e_0 = (match e_0 with
  | [] => true
  | (A, pr, nx, tab, fs) :: r => bif k A pr nx tab fs then hAll k r else false) := by
  cases e_0 with
  | nil =>
    show true = _
    try simp only [iAddQ_eq, iMulQ_eq, iNegQ_eq, lenQ_eq, nthQ_eq, setQ_eq, appQ_eq, mapQ_eq, allQ_eq, anyQ_eq, dropQ_eq, takeQ_eq, revQ_eq, getDQ_eq, optLQ_eq, brecC]
    all_goals rfl
  | cons h_0 t_0 =>
    show (Prod.rec (motive := fun _ => Bool) (fun A_2212 x_2213 => (Prod.rec (motive := fun _ => Bool) (fun pr_2214 x_2215 => (Prod.rec (motive := fun _ => Bool) (fun nx_2216 x_2217 => (Prod.rec (motive := fun _ => Bool) (fun tab_2218 fs_2219 => (Bool.rec (motive := fun _ => Bool) false (hAll k t_0) (k A_2212 pr_2214 nx_2216 tab_2218 fs_2219))) x_2217)) x_2215)) x_2213)) h_0) = _
    try simp only [iAddQ_eq, iMulQ_eq, iNegQ_eq, lenQ_eq, nthQ_eq, setQ_eq, appQ_eq, mapQ_eq, allQ_eq, anyQ_eq, dropQ_eq, takeQ_eq, revQ_eq, getDQ_eq, optLQ_eq, brecC]
    all_goals
      cases h_0 with
      | mk y_2220 y_2221 =>
        try dsimp only [cond_false, cond_true]
        all_goals
          cases y_2221 with
          | mk y_2222 y_2223 =>
            try dsimp only [cond_false, cond_true]
            all_goals
              cases y_2223 with
              | mk y_2224 y_2225 =>
                try dsimp only [cond_false, cond_true]
                all_goals
                  cases y_2225 with
                  | mk y_2226 y_2227 =>
                    try dsimp only [cond_false, cond_true]
                    all_goals
                      cases hq_5 : (k y_2220 y_2222 y_2224 y_2226 y_2227) with
                      | false =>
                        try dsimp only [cond_false, cond_true]
                        all_goals rfl
                      | true =>
                        try dsimp only [cond_false, cond_true]
                        all_goals rfl
noncomputable def go (scl : Option SL) (ini : Bool) (o nL : Nat) (tb : List (List (Option XE))) (env : List Ct) (pts : List PE) (G : List Ln) (rk : Option Ln) (fin : FN) (hn : HN) : Nat → Bool → KK
  | 0, _ => fun _ _ _ _ _ _ _ _ _ _ => false
  | n + 1, first => fun pc st lv A pr nx tab fs ca cb => bif (bif first then false else isPt hn.2.2.1 pc) then anyPt hn.2.2.2.2 G rk pc st lv A pr tab fs ca cb pts else match macG hn.2.2.2.1 scl hn.2.1 nL tb pc st lv A pr nx tab fs with
    | some (pc', lv', A', pr', nx', tab', fs') => go scl ini o nL tb env pts G rk fin hn n false pc' st lv' A' pr' nx' tab' fs' ca cb
    | none => match tbGet tb pc with
      | some e => (match hinG hn.2.2.2.1 hn.1 pc lv A pr nx tab fs with
        | none => step scl ini o nL env fin (go scl ini o nL tb env pts G rk fin hn n false) e pc st lv A pr nx tab fs ca cb
        | some L => hAll (fun A pr nx tab fs => step scl ini o nL env fin (go scl ini o nL tb env pts G rk fin hn n false) e pc st lv A pr nx tab fs ca cb) L)
      | none => false
