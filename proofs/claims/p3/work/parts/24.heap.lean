/-! ===== reads and writes of the heap ===== -/
noncomputable def minO_a0 :=
  fun (y_793 : Int) (x_792 : Int) => ((some (Bool.rec (motive := fun _ => _) y_793 x_792 (leI x_792 y_793))) : Option Int)
noncomputable def minO (a b : Option Int) : Option Int :=
  (Option.rec (motive := fun _ => Option Int) b (fun x_792 => (Option.rec (motive := fun _ => Option Int) (some x_792) (fun y_793 => (minO_a0 y_793 x_792)) b)) a)
theorem minO_def (a b : Option Int) : minO a b = (match a, b with
  | some x, some y => some (bif leI x y then x else y)
  | some x, none => some x
  | none, b => b) := by
  show (Option.rec (motive := fun _ => Option Int) b (fun x_790 => (Option.rec (motive := fun _ => Option Int) (some x_790) (fun y_791 => (some (Bool.rec (motive := fun _ => _) y_791 x_790 (leI x_790 y_791)))) b)) a) = _
  try simp only [iAddQ_eq, iMulQ_eq, iNegQ_eq, lenQ_eq, nthQ_eq, setQ_eq, appQ_eq, mapQ_eq, allQ_eq, anyQ_eq, dropQ_eq, takeQ_eq, revQ_eq, getDQ_eq, optLQ_eq, brecC]
  all_goals
    cases a with
    | none =>
      try dsimp only [cond_false, cond_true]
      all_goals rfl
    | some y_794 =>
      try dsimp only [cond_false, cond_true]
      all_goals
        cases b with
        | none =>
          try dsimp only [cond_false, cond_true]
          all_goals rfl
        | some y_795 =>
          try dsimp only [cond_false, cond_true]
          all_goals rfl
theorem minO_ok {a b : Option Int} {z c : Int} (ha : ∀ x, a = some x → z ≤ x) (hb : ∀ x, b = some x → z ≤ x) (h : minO a b = some c) : z ≤ c := by
  rw [minO_def] at h
  split at h
  · rename_i x y
    cases h
    cases h1 : leI x y with
    | true => exact ha x rfl
    | false => exact hb y rfl
  · cases h; exact ha _ rfl
  · exact hb c h
noncomputable def ubF_a0 :=
  fun (ih : Option Int → Option Int) (e_1 : Option Int) (tab : Tb) (e : Ln) (h_0 : Ln) => ((ih (Bool.rec (motive := fun _ => Option Int) e_1 (minO e_1 (ub tab (subL e h_0))) (shT e.2 h_0.2))) : Option Int)
noncomputable def ubF (tab : Tb) (e : Ln) : List Ln → Option Int → Option Int :=
  fun e_0 e_1 => List.rec (motive := fun _ => Option Int → Option Int) (fun e_1 => e_1) (fun h_0 t_0 ih e_1 => (ubF_a0 ih e_1 tab e h_0)) e_0 e_1
theorem ubF_def (tab : Tb) (e : Ln) (e_0 : List Ln) (e_1 : Option Int) : ubF tab e e_0 e_1 = (match e_0, e_1 with
  | [], b => b
  | f :: r, b => ubF tab e r (bif shT e.2 f.2 then minO b (ub tab (subL e f)) else b)) := by
  cases e_0 with
  | nil =>
    show e_1 = _
    try simp only [iAddQ_eq, iMulQ_eq, iNegQ_eq, lenQ_eq, nthQ_eq, setQ_eq, appQ_eq, mapQ_eq, allQ_eq, anyQ_eq, dropQ_eq, takeQ_eq, revQ_eq, getDQ_eq, optLQ_eq, brecC]
    all_goals rfl
  | cons h_0 t_0 =>
    show (ubF tab e t_0 (Bool.rec (motive := fun _ => Option Int) e_1 (minO e_1 (ub tab (subL e h_0))) (shT e.2 h_0.2))) = _
    try simp only [iAddQ_eq, iMulQ_eq, iNegQ_eq, lenQ_eq, nthQ_eq, setQ_eq, appQ_eq, mapQ_eq, allQ_eq, anyQ_eq, dropQ_eq, takeQ_eq, revQ_eq, getDQ_eq, optLQ_eq, brecC]
    all_goals rfl
theorem ubF_ok {ρ : Nat → Int} {tab : Tb} (ht : tOk ρ tab) {e : Ln} {fs : List Ln} (hf : fOk ρ fs) {b : Option Int} (hb : ∀ x, b = some x → ev ρ e ≤ x) {c : Int} (h : ubF tab e fs b = some c) : ev ρ e ≤ c := by
  induction fs generalizing b with
  | nil => exact hb c h
  | cons f r ih =>
    rw [ubF_def] at h
    try dsimp only at h
    refine ih (fun q hq => hf q (List.mem_cons_of_mem _ hq)) (fun x hx => ?_) h
    cases hs : shT e.2 f.2 with
    | false => rw [hs] at hx; exact hb x hx
    | true =>
      rw [hs] at hx
      refine minO_ok hb (fun y hy => ?_) hx
      have h1 := ub_ok ht hy
      rw [ev_sub] at h1
      have h2 := hf f List.mem_cons_self
      omega
/-- an index: its least and greatest value -/
noncomputable def idxR_a0 :=
  fun (l_806 : Int) (u_807 : Int) => ((some ((Int.toNat (iNegQ l_806)), (Int.toNat u_807))) : Option (Nat × Nat))
noncomputable def idxR_a1 :=
  fun (l_806 : Int) (u_807 : Int) => ((Bool.rec (motive := fun _ => Option (Nat × Nat)) none (idxR_a0 l_806 u_807) (leI l_806 (.ofNat (nat_lit 0)))) : Option (Nat × Nat))
noncomputable def idxR (tab : Tb) (fs : List Ln) (e : Ln) : Option (Nat × Nat) :=
  (List.rec (motive := fun _ => Option (Nat × Nat)) (Int.rec (motive := fun _ => Option (Nat × Nat)) (fun k_804 => (some (k_804, k_804))) (fun x_805 => none) e.1) (fun x_802 x_803 _ => (Option.rec (motive := fun _ => Option (Nat × Nat)) none (fun l_806 => (Option.rec (motive := fun _ => Option (Nat × Nat)) none (fun u_807 => (idxR_a1 l_806 u_807)) (ubF tab e fs (ub tab e)))) (ubF tab (sclL (.negSucc (nat_lit 0)) e) fs (ub tab (sclL (.negSucc (nat_lit 0)) e))))) e.2)
theorem idxR_def (tab : Tb) (fs : List Ln) (e : Ln) : idxR tab fs e = (match e.2 with
  | [] => (match e.1 with
    | .ofNat k => some (k, k)
    | .negSucc _ => none)
  | _ => match ubF tab (sclL (.negSucc 0) e) fs (ub tab (sclL (.negSucc 0) e)), ubF tab e fs (ub tab e) with
    | some l, some u => bif leI l 0 then some (Int.toNat (Int.neg l), Int.toNat u) else none
    | _, _ => none) := by
  show (List.rec (motive := fun _ => Option (Nat × Nat)) (Int.rec (motive := fun _ => Option (Nat × Nat)) (fun k_798 => (some (k_798, k_798))) (fun x_799 => none) e.1) (fun x_796 x_797 _ => (Option.rec (motive := fun _ => Option (Nat × Nat)) none (fun l_800 => (Option.rec (motive := fun _ => Option (Nat × Nat)) none (fun u_801 => (Bool.rec (motive := fun _ => Option (Nat × Nat)) none (some ((Int.toNat (iNegQ l_800)), (Int.toNat u_801))) (leI l_800 (.ofNat (nat_lit 0))))) (ubF tab e fs (ub tab e)))) (ubF tab (sclL (.negSucc (nat_lit 0)) e) fs (ub tab (sclL (.negSucc (nat_lit 0)) e))))) e.2) = _
  try simp only [iAddQ_eq, iMulQ_eq, iNegQ_eq, lenQ_eq, nthQ_eq, setQ_eq, appQ_eq, mapQ_eq, allQ_eq, anyQ_eq, dropQ_eq, takeQ_eq, revQ_eq, getDQ_eq, optLQ_eq, brecC]
  all_goals
    cases hq_1 : e.2 with
    | nil =>
      try dsimp only [cond_false, cond_true]
      all_goals
        cases hq_2 : e.1 with
        | ofNat y_808 =>
          try dsimp only [cond_false, cond_true]
          all_goals rfl
        | negSucc y_809 =>
          try dsimp only [cond_false, cond_true]
          all_goals rfl
    | cons y_810 y_811 =>
      try dsimp only [cond_false, cond_true]
      all_goals
        cases hq_3 : (ubF tab ((sclL ((.negSucc 0)) e)) fs ((ub tab ((sclL ((.negSucc 0)) e))))) with
        | none =>
          try dsimp only [cond_false, cond_true]
          all_goals rfl
        | some y_812 =>
          try dsimp only [cond_false, cond_true]
          all_goals
            cases hq_4 : (ubF tab e fs ((ub tab e))) with
            | none =>
              try dsimp only [cond_false, cond_true]
              all_goals rfl
            | some y_813 =>
              try dsimp only [cond_false, cond_true]
              all_goals
                cases hq_5 : (leI y_812 0) with
                | false =>
                  try dsimp only [cond_false, cond_true]
                  all_goals rfl
                | true =>
                  try dsimp only [cond_false, cond_true]
                  all_goals rfl
theorem idxR_ok {ρ : Nat → Int} {tab : Tb} {fs : List Ln} (ht : tOk ρ tab) (hf : fOk ρ fs) {e : Ln} {a b : Nat} {x : Int32} (hx : x.toInt = ev ρ e) (h : idxR tab fs e = some (a, b)) : 0 ≤ x ∧ a ≤ x.toNatClampNeg ∧ x.toNatClampNeg ≤ b := by
  have hc : x.toNatClampNeg = x.toInt.toNat := rfl
  rw [Int32.le_iff_toInt_le, hc]
  show (0 : Int) ≤ x.toInt ∧ _
  obtain ⟨c, ts⟩ := e
  rw [idxR_def] at h
  split at h
  · rename_i h1
    try dsimp only at h1 h
    subst h1
    rw [ev_k' ] at hx
    split at h
    · cases h
      rw [hx]
      exact ⟨Int.natCast_nonneg _, Nat.le_refl _, Nat.le_refl _⟩
    · cases h
  · split at h
    · rename_i l u h1 h2
      cases h3 : leI l 0 with
      | false => rw [h3] at h; cases h
      | true =>
        rw [h3] at h
        cases h
        have e1 := ubF_ok ht hf (fun y hy => ub_ok ht hy) h1
        have e2 := ubF_ok ht hf (fun y hy => ub_ok ht hy) h2
        have e3 := leI_le h3
        rw [ev_scl] at e1
        have e4 : (Int.negSucc 0) * ev ρ (c, ts) = - ev ρ (c, ts) := by show (-1) * _ = _; omega
        rw [e4] at e1
        rw [hx]
        have e5 : Int.neg l = - l := rfl
        rw [e5]
        omega
    · cases h
where
  ev_k' {ρ : Nat → Int} {c : Int} : ev ρ (c, []) = c := by show c + 0 = c; omega
noncomputable def sgLd_a0 :=
  fun (lo_824 : Int) (hi_825 : Int) => ((some (.inr (lo_824, hi_825, none))) : Option OR)
noncomputable def sgLd (tab : Tb) (fs : List Ln) (e : Ln) (s : List Sg) : Option OR :=
  (Option.rec (motive := fun _ => Option OR) none (fun x_820 => (Prod.rec (motive := fun _ => Option OR) (fun a_821 b_822 => (Bool.rec (motive := fun _ => Option OR) (Option.rec (motive := fun _ => Option OR) none (fun x_823 => (Prod.rec (motive := fun _ => Option OR) (fun lo_824 hi_825 => (sgLd_a0 lo_824 hi_825)) x_823)) (sgHull tab s a_821 b_822)) (sgAt s a_821) (Nat.beq a_821 b_822))) x_820)) (idxR tab fs e))
theorem sgLd_def (tab : Tb) (fs : List Ln) (e : Ln) (s : List Sg) : sgLd tab fs e s = (match idxR tab fs e with
  | some (a, b) => bif Nat.beq a b then sgAt s a else (match sgHull tab s a b with
    | some (lo, hi) => some (.inr (lo, hi, none))
    | none => none)
  | none => none) := by
  show (Option.rec (motive := fun _ => Option OR) none (fun x_814 => (Prod.rec (motive := fun _ => Option OR) (fun a_815 b_816 => (Bool.rec (motive := fun _ => Option OR) (Option.rec (motive := fun _ => Option OR) none (fun x_817 => (Prod.rec (motive := fun _ => Option OR) (fun lo_818 hi_819 => (some (.inr (lo_818, hi_819, none)))) x_817)) (sgHull tab s a_815 b_816)) (sgAt s a_815) (Nat.beq a_815 b_816))) x_814)) (idxR tab fs e)) = _
  try simp only [iAddQ_eq, iMulQ_eq, iNegQ_eq, lenQ_eq, nthQ_eq, setQ_eq, appQ_eq, mapQ_eq, allQ_eq, anyQ_eq, dropQ_eq, takeQ_eq, revQ_eq, getDQ_eq, optLQ_eq, brecC]
  all_goals
    cases hq_1 : (idxR tab fs e) with
    | none =>
      try dsimp only [cond_false, cond_true]
      all_goals rfl
    | some y_826 =>
      try dsimp only [cond_false, cond_true]
      all_goals
        cases y_826 with
        | mk y_827 y_828 =>
          try dsimp only [cond_false, cond_true]
          all_goals
            cases hq_3 : (Nat.beq y_827 y_828) with
            | false =>
              try dsimp only [cond_false, cond_true]
              all_goals
                cases hq_4 : (sgHull tab s y_827 y_828) with
                | none =>
                  try dsimp only [cond_false, cond_true]
                  all_goals rfl
                | some y_829 =>
                  try dsimp only [cond_false, cond_true]
                  all_goals
                    cases y_829 with
                    | mk y_830 y_831 =>
                      try dsimp only [cond_false, cond_true]
                      all_goals rfl
            | true =>
              try dsimp only [cond_false, cond_true]
              all_goals rfl
theorem sgLd_ok {ρ : Nat → Int} {tab : Tb} {fs : List Ln} (ht : tOk ρ tab) (hf : fOk ρ fs) {e : Ln} {s : List Sg} {l : List Int32} (hl : srel ρ s l) {x : Int32} (hx : x.toInt = ev ρ e) {o : OR} (h : sgLd tab fs e s = some o) : inB x l.length = true ∧ orOk ρ (l.getD x.toNatClampNeg 0).toInt o := by
  rw [sgLd_def] at h
  cases h1 : idxR tab fs e with
  | none => rw [h1] at h; cases h
  | some q =>
    obtain ⟨a, b⟩ := q
    rw [h1] at h
    try dsimp only at h
    obtain ⟨h2, h3, h4⟩ := idxR_ok ht hf hx h1
    have fin : ∀ y : Int32, l[x.toNatClampNeg]? = some y → inB x l.length = true ∧ l.getD x.toNatClampNeg 0 = y := fun y hy => by
      refine ⟨?_, by rw [List.getD_eq_getElem?_getD, hy]; rfl⟩
      simp only [inB, Bool.and_eq_true, decide_eq_true_eq]
      exact ⟨h2, (List.getElem?_eq_some_iff.mp hy).1⟩
    cases h5 : Nat.beq a b with
    | true =>
      rw [h5] at h
      have := Nat.eq_of_beq_eq_true h5
      have h6 : x.toNatClampNeg = a := by omega
      obtain ⟨y, y1, y2⟩ := sgAt_ok hl h
      rw [← h6] at y1
      obtain ⟨f1, f2⟩ := fin y y1
      exact ⟨f1, by rw [f2]; exact y2⟩
    | false =>
      rw [h5] at h
      cases h6 : sgHull tab s a b with
      | none => rw [h6] at h; cases h
      | some q =>
        obtain ⟨lo, hi⟩ := q
        rw [h6] at h
        cases h
        obtain ⟨y, y1, y2⟩ := sgHull_ok ht hl h6 _ h3 h4
        obtain ⟨f1, f2⟩ := fin y y1
        exact ⟨f1, by rw [f2]; exact ⟨y2, fun _ q => by cases q⟩⟩
noncomputable def sgSto_a0 :=
  fun (s : List Sg) (tab : Tb) (fs : List Ln) (v : Ln) (a_836 : Nat) (b_837 : Nat) => ((Bool.rec (motive := fun _ => Option (List Sg)) none (some s) (sgFit tab fs v s a_836 b_837)) : Option (List Sg))
noncomputable def sgSto_a1 :=
  fun (s : List Sg) (tab : Tb) (fs : List Ln) (v : Ln) (a_836 : Nat) (b_837 : Nat) => ((Bool.rec (motive := fun _ => Option (List Sg)) (sgSto_a0 s tab fs v a_836 b_837) (sgSet tab fs v s a_836) (Nat.beq a_836 b_837)) : Option (List Sg))
noncomputable def sgSto (tab : Tb) (fs : List Ln) (e v : Ln) (s : List Sg) : Option (List Sg) :=
  (Option.rec (motive := fun _ => Option (List Sg)) none (fun x_835 => (Prod.rec (motive := fun _ => Option (List Sg)) (fun a_836 b_837 => (sgSto_a1 s tab fs v a_836 b_837)) x_835)) (idxR tab fs e))
theorem sgSto_def (tab : Tb) (fs : List Ln) (e v : Ln) (s : List Sg) : sgSto tab fs e v s = (match idxR tab fs e with
  | some (a, b) => bif Nat.beq a b then sgSet tab fs v s a else (bif sgFit tab fs v s a b then some s else none)
  | none => none) := by
  show (Option.rec (motive := fun _ => Option (List Sg)) none (fun x_832 => (Prod.rec (motive := fun _ => Option (List Sg)) (fun a_833 b_834 => (Bool.rec (motive := fun _ => Option (List Sg)) (Bool.rec (motive := fun _ => Option (List Sg)) none (some s) (sgFit tab fs v s a_833 b_834)) (sgSet tab fs v s a_833) (Nat.beq a_833 b_834))) x_832)) (idxR tab fs e)) = _
  try simp only [iAddQ_eq, iMulQ_eq, iNegQ_eq, lenQ_eq, nthQ_eq, setQ_eq, appQ_eq, mapQ_eq, allQ_eq, anyQ_eq, dropQ_eq, takeQ_eq, revQ_eq, getDQ_eq, optLQ_eq, brecC]
  all_goals
    cases hq_1 : (idxR tab fs e) with
    | none =>
      try dsimp only [cond_false, cond_true]
      all_goals rfl
    | some y_838 =>
      try dsimp only [cond_false, cond_true]
      all_goals
        cases y_838 with
        | mk y_839 y_840 =>
          try dsimp only [cond_false, cond_true]
          all_goals
            cases hq_3 : (Nat.beq y_839 y_840) with
            | false =>
              try dsimp only [cond_false, cond_true]
              all_goals
                cases hq_4 : (sgFit tab fs v s y_839 y_840) with
                | false =>
                  try dsimp only [cond_false, cond_true]
                  all_goals rfl
                | true =>
                  try dsimp only [cond_false, cond_true]
                  all_goals rfl
            | true =>
              try dsimp only [cond_false, cond_true]
              all_goals rfl
theorem sgSto_ok {ρ : Nat → Int} {tab : Tb} {fs : List Ln} (ht : tOk ρ tab) (hf : fOk ρ fs) {e v : Ln} {s s' : List Sg} {l : List Int32} (hl : srel ρ s l) {x y : Int32} (hx : x.toInt = ev ρ e) (hy : y.toInt = ev ρ v) (h : sgSto tab fs e v s = some s') : inB x l.length = true ∧ srel ρ s' (l.set x.toNatClampNeg y) := by
  rw [sgSto_def] at h
  cases h1 : idxR tab fs e with
  | none => rw [h1] at h; cases h
  | some q =>
    obtain ⟨a, b⟩ := q
    rw [h1] at h
    try dsimp only at h
    obtain ⟨h2, h3, h4⟩ := idxR_ok ht hf hx h1
    have fin : x.toNatClampNeg < l.length → inB x l.length = true := fun hy => by
      simp only [inB, Bool.and_eq_true, decide_eq_true_eq]
      exact ⟨h2, hy⟩
    cases h5 : Nat.beq a b with
    | true =>
      rw [h5] at h
      have := Nat.eq_of_beq_eq_true h5
      have h6 : x.toNatClampNeg = a := by omega
      have h7 := sgSet_ok ht hf hy hl h
      rw [← h6] at h7
      exact ⟨fin h7.1, h7.2⟩
    | false =>
      rw [h5] at h
      cases h6 : sgFit tab fs v s a b with
      | false => rw [h6] at h; cases h
      | true =>
        rw [h6] at h
        cases h
        have h7 := sgFit_ok ht hf hy hl h6 _ h3 h4
        exact ⟨fin h7.1, h7.2⟩
/-- what is known of the script: its length, a place, the elements from there on -/
abbrev SL : Type := Ln × Ln × List Ln
noncomputable def winAt (B : Ln) (W : List Ln) (e : Ln) : OR := match subL e B with
  | (.ofNat c, []) => (match W[c]? with
    | some w => .inl w
    | none => full32)
  | _ => full32
noncomputable def gaI_a0 :=
  fun (r_869 : List AV) (o_882 : OR) => ((some (r_869, (.inr (false, o_882)))) : Option SV)
noncomputable def gaI (κ : Nat) (tab : Tb) (fs : List Ln) (A : AH) (st : List AV) : Option SV :=
  (List.rec (motive := fun _ => Option SV) none (fun x_862 x_863 _ => (Sum.rec (motive := fun _ => Option SV) (fun x_864 => (Prod.rec (motive := fun _ => Option SV) (fun x_866 e_867 => (Bool.rec (motive := fun _ => Option SV) (List.rec (motive := fun _ => Option SV) none (fun x_868 r_869 _ => (Sum.rec (motive := fun _ => Option SV) (fun x_870 => none) (fun x_871 => (Sum.rec (motive := fun _ => Option SV) (fun x_872 => (Option.rec (motive := fun _ => Option SV) none (fun q_874 => (Option.rec (motive := fun _ => Option SV) none (fun x_875 => (Sum.rec (motive := fun _ => Option SV) (fun x_876 => none) (fun x_877 => (Prod.rec (motive := fun _ => Option SV) (fun k_878 x_879 => (Sum.rec (motive := fun _ => Option SV) (fun s_880 => (Bool.rec (motive := fun _ => Option SV) none (Option.rec (motive := fun _ => Option SV) none (fun o_882 => (gaI_a0 r_869 o_882)) (sgLd tab fs e_867 s_880)) (Nat.beq k_878 κ))) (fun x_881 => none) x_879)) x_877)) x_875)) (nthQ A q_874))) x_872)) (fun x_873 => none) x_871)) x_868)) x_863) none x_866)) x_864)) (fun x_865 => none) x_862)) st)
theorem gaI_def (κ : Nat) (tab : Tb) (fs : List Ln) (A : AH) (st : List AV) : gaI κ tab fs A st = (match st with
  | .inl (false, e) :: .inr (.inl (some q)) :: r => (match A[q]? with
    | some (.inr (k, .inl s)) => bif Nat.beq k κ then (match sgLd tab fs e s with
      | some o => some (r, .inr (false, o))
      | none => none) else none
    | _ => none)
  | _ => none) := by
  show (List.rec (motive := fun _ => Option SV) none (fun x_841 x_842 _ => (Sum.rec (motive := fun _ => Option SV) (fun x_843 => (Prod.rec (motive := fun _ => Option SV) (fun x_845 e_846 => (Bool.rec (motive := fun _ => Option SV) (List.rec (motive := fun _ => Option SV) none (fun x_847 r_848 _ => (Sum.rec (motive := fun _ => Option SV) (fun x_849 => none) (fun x_850 => (Sum.rec (motive := fun _ => Option SV) (fun x_851 => (Option.rec (motive := fun _ => Option SV) none (fun q_853 => (Option.rec (motive := fun _ => Option SV) none (fun x_854 => (Sum.rec (motive := fun _ => Option SV) (fun x_855 => none) (fun x_856 => (Prod.rec (motive := fun _ => Option SV) (fun k_857 x_858 => (Sum.rec (motive := fun _ => Option SV) (fun s_859 => (Bool.rec (motive := fun _ => Option SV) none (Option.rec (motive := fun _ => Option SV) none (fun o_861 => (some (r_848, (.inr (false, o_861))))) (sgLd tab fs e_846 s_859)) (Nat.beq k_857 κ))) (fun x_860 => none) x_858)) x_856)) x_854)) (nthQ A q_853))) x_851)) (fun x_852 => none) x_850)) x_847)) x_842) none x_845)) x_843)) (fun x_844 => none) x_841)) st) = _
  try simp only [iAddQ_eq, iMulQ_eq, iNegQ_eq, lenQ_eq, nthQ_eq, setQ_eq, appQ_eq, mapQ_eq, allQ_eq, anyQ_eq, dropQ_eq, takeQ_eq, revQ_eq, getDQ_eq, optLQ_eq, brecC]
  all_goals
    cases st with
    | nil =>
      try dsimp only [cond_false, cond_true]
      all_goals rfl
    | cons y_883 y_884 =>
      try dsimp only [cond_false, cond_true]
      all_goals
        cases y_883 with
        | inl y_885 =>
          try dsimp only [cond_false, cond_true]
          all_goals
            cases y_885 with
            | mk y_886 y_887 =>
              try dsimp only [cond_false, cond_true]
              all_goals
                cases y_886 with
                | false =>
                  try dsimp only [cond_false, cond_true]
                  all_goals
                    cases y_884 with
                    | nil =>
                      try dsimp only [cond_false, cond_true]
                      all_goals rfl
                    | cons y_888 y_889 =>
                      try dsimp only [cond_false, cond_true]
                      all_goals
                        cases y_888 with
                        | inl y_890 =>
                          try dsimp only [cond_false, cond_true]
                          all_goals rfl
                        | inr y_891 =>
                          try dsimp only [cond_false, cond_true]
                          all_goals
                            cases y_891 with
                            | inl y_892 =>
                              try dsimp only [cond_false, cond_true]
                              all_goals
                                cases y_892 with
                                | none =>
                                  try dsimp only [cond_false, cond_true]
                                  all_goals rfl
                                | some y_893 =>
                                  try dsimp only [cond_false, cond_true]
                                  all_goals
                                    cases hq_9 : A[y_893]? with
                                    | none =>
                                      try dsimp only [cond_false, cond_true]
                                      all_goals rfl
                                    | some y_894 =>
                                      try dsimp only [cond_false, cond_true]
                                      all_goals
                                        cases y_894 with
                                        | inl y_895 =>
                                          try dsimp only [cond_false, cond_true]
                                          all_goals rfl
                                        | inr y_896 =>
                                          try dsimp only [cond_false, cond_true]
                                          all_goals
                                            cases y_896 with
                                            | mk y_897 y_898 =>
                                              try dsimp only [cond_false, cond_true]
                                              all_goals
                                                cases y_898 with
                                                | inl y_899 =>
                                                  try dsimp only [cond_false, cond_true]
                                                  all_goals
                                                    cases hq_13 : (Nat.beq y_897 κ) with
                                                    | false =>
                                                      try dsimp only [cond_false, cond_true]
                                                      all_goals rfl
                                                    | true =>
                                                      try dsimp only [cond_false, cond_true]
                                                      all_goals
                                                        cases hq_14 : (sgLd tab fs y_887 y_899) with
                                                        | none =>
                                                          try dsimp only [cond_false, cond_true]
                                                          all_goals rfl
                                                        | some y_900 =>
                                                          try dsimp only [cond_false, cond_true]
                                                          all_goals rfl
                                                | inr y_901 =>
                                                  try dsimp only [cond_false, cond_true]
                                                  all_goals rfl
                            | inr y_902 =>
                              try dsimp only [cond_false, cond_true]
                              all_goals rfl
                | true =>
                  try dsimp only [cond_false, cond_true]
                  all_goals rfl
        | inr y_903 =>
          try dsimp only [cond_false, cond_true]
          all_goals rfl
noncomputable def gF (a b : Nat) (A : AH) (st : List AV) : Option SV :=
  (List.rec (motive := fun _ => Option SV) none (fun x_917 r_918 _ => (Sum.rec (motive := fun _ => Option SV) (fun x_919 => none) (fun x_920 => (Sum.rec (motive := fun _ => Option SV) (fun x_921 => (Option.rec (motive := fun _ => Option SV) none (fun q_923 => (Option.rec (motive := fun _ => Option SV) none (fun x_924 => (Sum.rec (motive := fun _ => Option SV) (fun x_925 => (Prod.rec (motive := fun _ => Option SV) (fun ci_927 as_928 => (Bool.rec (motive := fun _ => Option SV) none (Option.rec (motive := fun _ => Option SV) none (fun v_929 => (some (r_918, (.inl v_929)))) (nthQ as_928 b)) (Nat.beq ci_927 a))) x_925)) (fun x_926 => none) x_924)) (nthQ A q_923))) x_921)) (fun x_922 => none) x_920)) x_917)) st)
theorem gF_def (a b : Nat) (A : AH) (st : List AV) : gF a b A st = (match st with
  | .inr (.inl (some q)) :: r => (match A[q]? with
    | some (.inl (ci, as)) => bif Nat.beq ci a then (match as[b]? with
      | some v => some (r, .inl v)
      | none => none) else none
    | _ => none)
  | _ => none) := by
  show (List.rec (motive := fun _ => Option SV) none (fun x_904 r_905 _ => (Sum.rec (motive := fun _ => Option SV) (fun x_906 => none) (fun x_907 => (Sum.rec (motive := fun _ => Option SV) (fun x_908 => (Option.rec (motive := fun _ => Option SV) none (fun q_910 => (Option.rec (motive := fun _ => Option SV) none (fun x_911 => (Sum.rec (motive := fun _ => Option SV) (fun x_912 => (Prod.rec (motive := fun _ => Option SV) (fun ci_914 as_915 => (Bool.rec (motive := fun _ => Option SV) none (Option.rec (motive := fun _ => Option SV) none (fun v_916 => (some (r_905, (.inl v_916)))) (nthQ as_915 b)) (Nat.beq ci_914 a))) x_912)) (fun x_913 => none) x_911)) (nthQ A q_910))) x_908)) (fun x_909 => none) x_907)) x_904)) st) = _
  try simp only [iAddQ_eq, iMulQ_eq, iNegQ_eq, lenQ_eq, nthQ_eq, setQ_eq, appQ_eq, mapQ_eq, allQ_eq, anyQ_eq, dropQ_eq, takeQ_eq, revQ_eq, getDQ_eq, optLQ_eq, brecC]
  all_goals
    cases st with
    | nil =>
      try dsimp only [cond_false, cond_true]
      all_goals rfl
    | cons y_930 y_931 =>
      try dsimp only [cond_false, cond_true]
      all_goals
        cases y_930 with
        | inl y_932 =>
          try dsimp only [cond_false, cond_true]
          all_goals rfl
        | inr y_933 =>
          try dsimp only [cond_false, cond_true]
          all_goals
            cases y_933 with
            | inl y_934 =>
              try dsimp only [cond_false, cond_true]
              all_goals
                cases y_934 with
                | none =>
                  try dsimp only [cond_false, cond_true]
                  all_goals rfl
                | some y_935 =>
                  try dsimp only [cond_false, cond_true]
                  all_goals
                    cases hq_5 : A[y_935]? with
                    | none =>
                      try dsimp only [cond_false, cond_true]
                      all_goals rfl
                    | some y_936 =>
                      try dsimp only [cond_false, cond_true]
                      all_goals
                        cases y_936 with
                        | inl y_937 =>
                          try dsimp only [cond_false, cond_true]
                          all_goals
                            cases y_937 with
                            | mk y_938 y_939 =>
                              try dsimp only [cond_false, cond_true]
                              all_goals
                                cases hq_8 : (Nat.beq y_938 a) with
                                | false =>
                                  try dsimp only [cond_false, cond_true]
                                  all_goals rfl
                                | true =>
                                  try dsimp only [cond_false, cond_true]
                                  all_goals
                                    cases hq_9 : y_939[b]? with
                                    | none =>
                                      try dsimp only [cond_false, cond_true]
                                      all_goals rfl
                                    | some y_940 =>
                                      try dsimp only [cond_false, cond_true]
                                      all_goals rfl
                        | inr y_941 =>
                          try dsimp only [cond_false, cond_true]
                          all_goals rfl
            | inr y_942 =>
              try dsimp only [cond_false, cond_true]
              all_goals rfl
/-- reads: scl is of the script, where the method has one -/
noncomputable def g3 (scl : Option SL) (i : Instr) (a b : Nat) (tab : Tb) (fs : List Ln) (A : AH) (st : List AV) : Option SV := match i with
  | .getfield _ => gF a b A st
  | .iaload => match scl with
    | none => gaI 0 tab fs A st
    | some (L, B, W) => match st with
      | .inl (false, e) :: .inr (.inl (some q)) :: r => bif Nat.beq q sIdx then (bif le0 tab fs (sclL (.negSucc 0) e) then (bif le0 tab fs (pluL (subL e L) 1) then some (r, .inr (false, winAt B W e)) else none) else none) else none
      | _ => none
  | .caload => gaI 2 tab fs A st
  | .baload => gaI 3 tab fs A st
  | .laload => match st with
    | .inl (false, e) :: .inr (.inl (some q)) :: r => (match A[q]? with
      | some (.inr (k, .inr (.inl m))) => bif Nat.beq k 1 then (match idxR tab fs e with
        | some (_, u) => bif Nat.blt u (jLen m) then some (r, .inr (true, bif Nat.blt m zB then full64 else .inl (kL 0))) else none
        | none => none) else none
      | _ => none)
    | _ => none
  | .arraylength => match scl with
    | none => (match st with
      | .inr (.inl (some q)) :: r => (match A[q]? with
        | some (.inr (k, .inr (.inl m))) => bif Nat.blt k 8 then (bif Nat.ble (jLen m) 1000000 then some (r, .inl (avI (kL (.ofNat (jLen m))))) else none) else none
        | _ => none)
      | _ => none)
    | some (L, _, _) => match st with
      | .inr (.inl (some q)) :: r => bif Nat.beq q sIdx then some (r, .inl (avI L)) else none
      | _ => none
  | _ => none
/-- what the script is: its length is told, and small -/
noncomputable def scOk (ρ : Nat → Int) (scr : Option (List Int32)) (scl : Option SL) : Prop := match scr, scl with
  | none, none => True
  | some xs, some (L, B, W) => (xs.length : Int) = ev ρ L ∧ xs.length < 2 ^ 31 ∧ ∀ (c : Nat) (w : Ln), W[c]? = some w → ∀ k : Nat, (k : Int) = ev ρ B + c → k < xs.length → (xs.getD k 0).toInt = ev ρ w
  | _, _ => False
section HEAP
variable {ρ : Nat → Int} {tab : Tb} {fs : List Ln} {cst : List Value} {st rest : List AV} {r : RV} {σ : SH} {A : AH}
theorem winAt_ok {xs : List Int32} {L B : Ln} {W : List Ln} {e : Ln} {x : Int32} (h : scOk ρ (some xs) (some (L, B, W))) (h0 : 0 ≤ x.toInt) (h1 : x.toInt < xs.length) (hx : x.toInt = ev ρ e) : orOk ρ (xs.getD x.toNatClampNeg 0).toInt (winAt B W e) := by
  obtain ⟨-, -, h2⟩ := h
  unfold winAt
  split
  · rename_i c he
    split
    · rename_i w hw
      have h3 := ev_sub ρ e B
      rw [he] at h3
      have h4 : ev ρ ((.ofNat c, []) : Ln) = (c : Int) := ev_k ρ c
      rw [h4] at h3
      have hcl : x.toNatClampNeg = x.toInt.toNat := rfl
      exact h2 c w hw x.toNatClampNeg (by omega) (by omega)
    · exact full32_ok ρ _
  · exact full32_ok ρ _
theorem vR_inv {v : Value} {q : Nat} (h : vrel ρ v (.inr (.inl (some q)))) : v = .ref q := h
theorem crI_inv {c : SC} {k : Nat} {s : List Sg} (hk : k < 100) (h : crel ρ c (.inr (k, .inl s))) : ∃ l, c = .inr (k, .inl l) ∧ srel ρ s l := by
  have h' : arel ρ k s c := h
  unfold arel at h'
  rw [if_pos hk] at h'
  exact h'
theorem crO_inv {c : SC} {ci : Nat} {as : List AV} (h : crel ρ c (.inl (ci, as))) : ∃ fs, c = .inl (ci, fs) ∧ rel2 (vrel ρ) fs as := h
theorem crJ_inv {c : SC} {k m : Nat} (h : crel ρ c (.inr (k, .inr (.inl m)))) : ∃ l : List Int64, c = .inr (k, .inr (.inl l)) ∧ jOk m l := h
theorem crR_inv {c : SC} {k : Nat} {q : List (Option Nat)} (h : crel ρ c (.inr (k, .inr (.inr q)))) : c = .inr (k, .inr (.inr q)) := h
theorem aInt_ok {κ : Nat} (hκ : κ < 100) (ht : tOk ρ tab) (hf : fOk ρ fs) (hs : rel2 (vrel ρ) cst st) (hA : rel2 (crel ρ) σ A) (h : gaI κ tab fs A st = some (rest, r)) : ∃ v cr, aI κ cst σ = some (v :: cr) ∧ rel2 (vrel ρ) cr rest ∧ rvOk ρ v r := by
  rw [gaI_def] at h
  split at h
  · rename_i e q r'
    split at h
    · rename_i k s hq
      cases hk : Nat.beq k κ with
      | false => rw [hk] at h; cases h
      | true =>
        rw [hk] at h
        cases hl : sgLd tab fs e s with
        | none => simp only [hl] at h; cases h
        | some o =>
          simp only [hl] at h
          cases h
          obtain ⟨v1, c1, e1, h1, hs1⟩ := rel2_cons hs
          obtain ⟨v2, c2, e2, h2, hs2⟩ := rel2_cons hs1
          obtain ⟨x, e3, h3⟩ := vI_inv h1
          have e4 := vR_inv h2
          subst e1; subst e2; subst e3; subst e4
          obtain ⟨c, hc1, hc2⟩ := rel2_get hA hq
          have := Nat.eq_of_beq_eq_true hk
          subst this
          obtain ⟨l, e5, h5⟩ := crI_inv hκ hc2
          subst e5
          obtain ⟨f1, f2⟩ := sgLd_ok ht hf h5 h3 hl
          refine ⟨.int (l.getD x.toNatClampNeg 0), c2, ?_, hs2, _, rfl, f2⟩
          unfold aI
          simp only [hc1]
          rw [if_pos ⟨trivial, f1⟩]
    · cases h
  · cases h
set_option maxHeartbeats 4000000 in
theorem g3_ok {scr : Option (List Int32)} {scl : Option SL} {i : Instr} {a b : Nat} (ht : tOk ρ tab) (hf : fOk ρ fs) (hs : rel2 (vrel ρ) cst st) (hA : rel2 (crel ρ) σ A) (hsc : scOk ρ scr scl) (h : g3 scl i a b tab fs A st = some (rest, r)) : ∃ v cr, stepD scr i a b cst σ = some (v :: cr) ∧ rel2 (vrel ρ) cr rest ∧ rvOk ρ v r := by
  have no : ∀ {P : Prop}, (none : Option SV) = some (rest, r) → P := fun h => by cases h
  cases i with
  | getfield _ =>
    simp only [g3] at h
    rw [gF_def] at h
    split at h
    · rename_i q r'
      split at h
      · rename_i ci as hq
        cases hk : Nat.beq ci a with
        | false => rw [hk] at h; cases h
        | true =>
          rw [hk] at h
          simp only [cond_true] at h
          split at h
          · rename_i v hb
            cases h
            obtain ⟨v1, c1, e1, h1, hs1⟩ := rel2_cons hs
            have e4 := vR_inv h1
            subst e1; subst e4
            obtain ⟨c, hc1, hc2⟩ := rel2_get hA hq
            obtain ⟨fl, e5, h5⟩ := crO_inv hc2
            subst e5
            have := Nat.eq_of_beq_eq_true hk
            subst this
            obtain ⟨w, hw1, hw2⟩ := rel2_get h5 hb
            refine ⟨w, c1, ?_, hs1, hw2⟩
            simp only [stepD, hc1]
            rw [if_pos trivial, hw1]
            rfl
          · cases h
      · cases h
    · cases h
  | iaload =>
    simp only [g3] at h
    match scr, scl, hsc with
    | none, none, _ => exact aInt_ok (by decide) ht hf hs hA h
    | some xs, some (L, B, W), hsc =>
      try dsimp only at h
      split at h
      · rename_i e q r'
        cases hq : Nat.beq q sIdx with
        | false => rw [hq] at h; cases h
        | true =>
          rw [hq] at h
          cases h1 : le0 tab fs (sclL (.negSucc 0) e) with
          | false => rw [h1] at h; cases h
          | true =>
            rw [h1] at h
            cases h2 : le0 tab fs (pluL (subL e L) 1) with
            | false => rw [h2] at h; cases h
            | true =>
              rw [h2] at h
              cases h
              obtain ⟨v1, c1, e1, hh1, hs1⟩ := rel2_cons hs
              obtain ⟨v2, c2, e2, hh2, hs2⟩ := rel2_cons hs1
              obtain ⟨x, e3, h3⟩ := vI_inv hh1
              have e4 := vR_inv hh2
              subst e1; subst e2; subst e3; subst e4
              have p1 := le0_ok ht hf h1
              have p2 := le0_ok ht hf h2
              rw [ev_scl] at p1
              rw [ev_plu, ev_sub, ← hsc.1] at p2
              have p3 : (Int.negSucc 0) * ev ρ e = - ev ρ e := by show (-1) * _ = _; omega
              rw [p3] at p1
              have hin : inB x xs.length = true := by
                simp only [inB, Bool.and_eq_true, decide_eq_true_eq]
                have hcl : x.toNatClampNeg = x.toInt.toNat := rfl
                rw [Int32.le_iff_toInt_le, hcl]
                show (0 : Int) ≤ x.toInt ∧ _
                omega
              refine ⟨.int (xs.getD x.toNatClampNeg 0), c2, ?_, hs2, _, rfl, winAt_ok hsc (x := x) (by rw [h3]; omega) (by rw [h3]; omega) h3⟩
              simp only [stepD]
              rw [if_pos (Nat.eq_of_beq_eq_true hq), if_pos hin]
      · cases h
  | caload => exact aInt_ok (by decide) ht hf hs hA h
  | baload => exact aInt_ok (by decide) ht hf hs hA h
  | laload =>
    simp only [g3] at h
    split at h
    · rename_i e q r'
      split at h
      · rename_i k m hq
        cases hk : Nat.beq k 1 with
        | false => rw [hk] at h; cases h
        | true =>
          rw [hk] at h
          simp only [cond_true] at h
          split at h
          · rename_i lo u hi
            cases hu : Nat.blt u (jLen m) with
            | false => rw [hu] at h; cases h
            | true =>
              rw [hu] at h
              cases h
              obtain ⟨v1, c1, e1, h1, hs1⟩ := rel2_cons hs
              obtain ⟨v2, c2, e2, h2, hs2⟩ := rel2_cons hs1
              obtain ⟨x, e3, h3⟩ := vI_inv h1
              have e4 := vR_inv h2
              subst e1; subst e2; subst e3; subst e4
              obtain ⟨c, hc1, hc2⟩ := rel2_get hA hq
              obtain ⟨l, e5, h5⟩ := crJ_inv hc2
              subst e5
              obtain ⟨p1, p2, p3⟩ := idxR_ok ht hf h3 hi
              have p4 := blt_iff.mp hu
              have p5 := h5.1
              have hin : inB x l.length = true := by
                simp only [inB, Bool.and_eq_true, decide_eq_true_eq]
                exact ⟨p1, by omega⟩
              refine ⟨.long (l.getD x.toNatClampNeg 0), c2, ?_, hs2, _, rfl, ?_⟩
              case refine_2 =>
                cases hz : Nat.blt m zB with
                | true => exact full64_ok ρ _
                | false =>
                  have e7 : l.getD x.toNatClampNeg 0 = 0 := by
                    rw [List.getD_eq_getElem?_getD]
                    cases e8 : l[x.toNatClampNeg]? with
                    | none => rfl
                    | some w => exact h5.2 hz w (List.mem_of_getElem? e8)
                  show (l.getD x.toNatClampNeg 0).toInt = ev ρ (kL 0)
                  rw [e7, ev_k]
                  rfl
              simp only [stepD, hc1]
              rw [if_pos ⟨Nat.eq_of_beq_eq_true hk, hin⟩]
          · cases h
      · cases h
    · cases h
  | arraylength =>
    simp only [g3] at h
    match scr, scl, hsc with
    | none, none, _ =>
      try dsimp only at h
      split at h
      · rename_i q r'
        split at h
        · rename_i k m hq
          cases hk : Nat.blt k 8 with
          | false => rw [hk] at h; cases h
          | true =>
            rw [hk] at h
            cases hm : Nat.ble (jLen m) 1000000 with
            | false => rw [hm] at h; cases h
            | true =>
              rw [hm] at h
              cases h
              obtain ⟨v1, c1, e1, h1, hs1⟩ := rel2_cons hs
              have e4 := vR_inv h1
              subst e1; subst e4
              obtain ⟨c, hc1, hc2⟩ := rel2_get hA hq
              obtain ⟨l, e5, h5⟩ := crJ_inv hc2
              subst e5
              have p := Nat.le_of_ble_eq_true hm
              refine ⟨.int (Int32.ofNat l.length), c1, ?_, hs1, _, rfl, ?_⟩
              · simp only [stepD, hc1]
                rw [if_pos (blt_iff.mp hk)]
              · have h5 := h5.1
                rw [ev_k, h5]
                exact Int32.toInt_ofNat_of_lt (by omega)
        · cases h
      · cases h
    | some xs, some (L, B, W), hsc =>
      try dsimp only at h
      split at h
      · rename_i q r'
        cases hq : Nat.beq q sIdx with
        | false => rw [hq] at h; cases h
        | true =>
          rw [hq] at h
          cases h
          obtain ⟨v1, c1, e1, h1, hs1⟩ := rel2_cons hs
          have e4 := vR_inv h1
          subst e1; subst e4
          refine ⟨.int (Int32.ofNat xs.length), c1, ?_, hs1, _, rfl, ?_⟩
          · simp only [stepD]
            rw [if_pos (Nat.eq_of_beq_eq_true hq)]
          · rw [Int32.toInt_ofNat_of_lt hsc.2.1, hsc.1]
      · cases h
  | _ => exact no h
end HEAP
