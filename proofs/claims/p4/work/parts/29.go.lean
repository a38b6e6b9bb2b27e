/-! ===== the runner: from a place on, until places that are told, or the end ===== -/
noncomputable def negC (c : Jvm.ClassFile.Cond) : Jvm.ClassFile.Cond := match c with
  | .eq => .ne
  | .ne => .eq
  | .lt => .ge
  | .ge => .lt
  | .gt => .le
  | .le => .gt
noncomputable def asm (c : Jvm.ClassFile.Cond) (tab : Tb) (fs : List Ln) (x y : Ln) : Option (Tb × List Ln) := match c with
  | .lt => addLe tab fs (pluL (subL x y) 1)
  | .ge => addLe tab fs (subL y x)
  | .gt => addLe tab fs (pluL (subL y x) 1)
  | .le => addLe tab fs (subL x y)
  | .eq => match addLe tab fs (subL x y) with
    | some (t, f) => addLe t f (subL y x)
    | none => none
  | .ne => bif le0 tab fs (subL x y) then addLe tab fs (pluL (subL x y) 1) else bif le0 tab fs (subL y x) then addLe tab fs (pluL (subL y x) 1) else some (tab, fs)
noncomputable def cndZ (c : Jvm.ClassFile.Cond) (a b : Int) : Prop := match c with
  | .lt => a < b
  | .ge => b ≤ a
  | .gt => b < a
  | .le => a ≤ b
  | .eq => a = b
  | .ne => a ≠ b
theorem asm_ok {ρ : Nat → Int} {tab : Tb} {fs : List Ln} (ht : tOk ρ tab) (hf : fOk ρ fs) {c : Jvm.ClassFile.Cond} {x y : Ln} (h : cndZ c (ev ρ x) (ev ρ y)) : ∃ tab' fs', asm c tab fs x y = some (tab', fs') ∧ tOk ρ tab' ∧ fOk ρ fs' := by
  have sub : ∀ {t : Tb} {f : List Ln} {a b : Ln}, tOk ρ t → fOk ρ f → ev ρ a ≤ ev ρ b → ∃ tab' fs', addLe t f (subL a b) = some (tab', fs') ∧ tOk ρ tab' ∧ fOk ρ fs' := fun ht hf h => addLe_ok ht hf (by rw [ev_sub]; omega)
  have sub1 : ∀ {t : Tb} {f : List Ln} {a b : Ln}, tOk ρ t → fOk ρ f → ev ρ a < ev ρ b → ∃ tab' fs', addLe t f (pluL (subL a b) 1) = some (tab', fs') ∧ tOk ρ tab' ∧ fOk ρ fs' := fun ht hf h => addLe_ok ht hf (by rw [ev_plu, ev_sub]; omega)
  cases c with
  | lt => exact sub1 ht hf h
  | ge => exact sub ht hf h
  | gt => exact sub1 ht hf h
  | le => exact sub ht hf h
  | eq =>
    have h' : ev ρ x = ev ρ y := h
    obtain ⟨t, f, e, h1, h2⟩ := sub (a := x) (b := y) ht hf (by omega)
    unfold asm
    simp only [e]
    exact sub h1 h2 (by omega)
  | ne =>
    have h' : ev ρ x ≠ ev ρ y := h
    unfold asm
    try dsimp only
    cases h1 : le0 tab fs (subL x y) with
    | true =>
      have q := le0_ok ht hf h1
      rw [ev_sub] at q
      exact sub1 ht hf (by omega)
    | false =>
      cases h2 : le0 tab fs (subL y x) with
      | true =>
        have q := le0_ok ht hf h2
        rw [ev_sub] at q
        exact sub1 ht hf (by omega)
      | false => exact ⟨tab, fs, rfl, ht, hf⟩
theorem cnd_iff {c : Jvm.ClassFile.Cond} {x y : Int32} : cnd c x y = true ↔ cndZ c x.toInt y.toInt := by
  cases c <;> simp only [cnd, cndZ, decide_eq_true_eq, Int32.lt_iff_toInt_lt, Int32.le_iff_toInt_le, Int32.toInt_inj, ne_eq]
theorem cndZ_neg {c : Jvm.ClassFile.Cond} {a b : Int} (h : ¬ cndZ c a b) : cndZ (negC c) a b := by
  cases c <;> simp only [cndZ, negC] at h ⊢ <;> omega
theorem cnd_neg {c : Jvm.ClassFile.Cond} {x y : Int32} (h : cnd c x y = false) : cndZ (negC c) x.toInt y.toInt := cndZ_neg fun q => by rw [cnd_iff.mpr q] at h; cases h
theorem cmpZ_cnd {c : Jvm.ClassFile.Cond} {a b : Int} : cndZ c (cmpZ a b).toInt (0 : Int32).toInt ↔ cndZ c a b := by
  have e0 : (0 : Int32).toInt = 0 := rfl
  have e1 : (1 : Int32).toInt = 1 := rfl
  have e2 : (-1 : Int32).toInt = -1 := rfl
  unfold cmpZ
  rw [e0]
  by_cases h1 : b < a
  · rw [if_pos h1, e1]
    cases c <;> simp only [cndZ] <;> omega
  · rw [if_neg h1]
    by_cases h2 : a = b
    · subst h2
      rw [if_pos rfl, e0]
      cases c <;> simp [cndZ]
    · rw [if_neg h2, e2]
      cases c <;> simp only [cndZ] <;> omega
noncomputable def jmpA (pc : Nat) (off : Int) : Option Nat := match Int.add (.ofNat pc) off with
  | .ofNat t => some t
  | .negSucc _ => none
theorem jmpA_ok {pc t : Nat} {off : Int} (h : jmpA pc off = some t) : jmp pc off = some t := by
  unfold jmpA at h
  split at h
  · rename_i t' he
    cases h
    have he' : (pc : Int) + off = (t : Int) := he
    unfold jmp
    rw [he', if_pos (Int.natCast_nonneg t)]
    rfl
  · cases h
-- points, contracts
abbrev PE : Type := Nat × List Nat × Pt × List Ln × Option Ln × Nat × Nat
abbrev Ot : Type := Pt × Nat × Nat
abbrev Ct : Type := Nat × Nat × Pt × List Ot
noncomputable def hasPc (pc : Nat) : List PE → Bool
  | [] => false
  | p :: r => bif Nat.beq pc p.1 then true else hasPc pc r
noncomputable def lvAt (lv : AL) : List Nat → Option (List AV) :=
  fun e_0 => List.rec (motive := fun _ => Option (List AV)) (some []) (fun h_0 t_0 ih => (Option.rec (motive := fun _ => Option (List AV)) none (fun a_2293 => (Option.rec (motive := fun _ => Option (List AV)) none (fun q_2294 => (some (a_2293 :: q_2294))) (ih))) (alGet h_0 lv))) e_0 
theorem lvAt_def (lv : AL) (e_0 : List Nat) : lvAt lv e_0 = (match e_0 with
  | [] => some []
  | k :: r => match alGet k lv with
    | some a => (match lvAt lv r with
      | some q => some (a :: q)
      | none => none)
    | none => none) := by
  cases e_0 with
  | nil =>
    show (some []) = _
    try simp only [iAddQ_eq, iMulQ_eq, iNegQ_eq, lenQ_eq, nthQ_eq, setQ_eq, appQ_eq, mapQ_eq, allQ_eq, anyQ_eq, dropQ_eq, takeQ_eq, revQ_eq, getDQ_eq, optLQ_eq, brecC]
    all_goals rfl
  | cons h_0 t_0 =>
    show (Option.rec (motive := fun _ => Option (List AV)) none (fun a_2295 => (Option.rec (motive := fun _ => Option (List AV)) none (fun q_2296 => (some (a_2295 :: q_2296))) (lvAt lv t_0))) (alGet h_0 lv)) = _
    try simp only [iAddQ_eq, iMulQ_eq, iNegQ_eq, lenQ_eq, nthQ_eq, setQ_eq, appQ_eq, mapQ_eq, allQ_eq, anyQ_eq, dropQ_eq, takeQ_eq, revQ_eq, getDQ_eq, optLQ_eq, brecC]
    all_goals
      cases hq_1 : (alGet h_0 lv) with
      | none =>
        try dsimp only [cond_false, cond_true]
        all_goals rfl
      | some y_2297 =>
        try dsimp only [cond_false, cond_true]
        all_goals
          cases hq_2 : (lvAt lv t_0) with
          | none =>
            try dsimp only [cond_false, cond_true]
            all_goals rfl
          | some y_2298 =>
            try dsimp only [cond_false, cond_true]
            all_goals rfl
noncomputable def rkLt_a0 :=
  fun (tab : Tb) (fs : List Ln) (θ : Th) (r_2301 : Ln) (q_2302 : Ln) => ((le0 tab fs (pluL (subL (sbL θ r_2301) q_2302) (.ofNat (nat_lit 1)))) : Bool)
noncomputable def rkLt (tab : Tb) (fs : List Ln) (θ : Th) (rk r : Option Ln) : Bool :=
  (Option.rec (motive := fun _ => Bool) true (fun r_2301 => (Option.rec (motive := fun _ => Bool) true (fun q_2302 => (rkLt_a0 tab fs θ r_2301 q_2302)) rk)) r)
theorem rkLt_def (tab : Tb) (fs : List Ln) (θ : Th) (rk r : Option Ln) : rkLt tab fs θ rk r = (match r with
  | none => true
  | some r => match rk with
    | none => true
    | some q => le0 tab fs (pluL (subL (sbL θ r) q) 1)) := by
  show (Option.rec (motive := fun _ => Bool) true (fun r_2299 => (Option.rec (motive := fun _ => Bool) true (fun q_2300 => (le0 tab fs (pluL (subL (sbL θ r_2299) q_2300) (.ofNat (nat_lit 1))))) rk)) r) = _
  all_goals
    cases r with
    | none =>
      try dsimp only [cond_false, cond_true]
      all_goals rfl
    | some y_2303 =>
      try dsimp only [cond_false, cond_true]
      all_goals
        cases rk with
        | none =>
          try dsimp only [cond_false, cond_true]
          all_goals rfl
        | some y_2304 =>
          try dsimp only [cond_false, cond_true]
          all_goals rfl
noncomputable def uniG  : Un → List Ln → List Ln → Un :=
  fun θ e_0 e_1 => List.rec (motive := fun _ => Un → List Ln → Un) (fun θ e_1 => θ) (fun h_0 t_0 ih θ e_1 => (List.rec (motive := fun _ => Un) θ (fun a_2305 q_2306 _ => (ih (uniL θ h_0 a_2305) q_2306)) e_1)) e_0 θ e_1
theorem uniG_def  (θ : Un) (e_0 : List Ln) (e_1 : List Ln) : uniG  θ e_0 e_1 = (match e_0, e_1 with
  | p :: r, a :: q => uniG (uniL θ p a) r q
  | _, _ => θ) := by
  cases e_0 with
  | nil =>
    show θ = _
    try simp only [iAddQ_eq, iMulQ_eq, iNegQ_eq, lenQ_eq, nthQ_eq, setQ_eq, appQ_eq, mapQ_eq, allQ_eq, anyQ_eq, dropQ_eq, takeQ_eq, revQ_eq, getDQ_eq, optLQ_eq, brecC]
    all_goals rfl
  | cons h_0 t_0 =>
    show (List.rec (motive := fun _ => Un) θ (fun a_2307 q_2308 _ => (uniG (uniL θ h_0 a_2307) t_0 q_2308)) e_1) = _
    try simp only [iAddQ_eq, iMulQ_eq, iNegQ_eq, lenQ_eq, nthQ_eq, setQ_eq, appQ_eq, mapQ_eq, allQ_eq, anyQ_eq, dropQ_eq, takeQ_eq, revQ_eq, getDQ_eq, optLQ_eq, brecC]
    all_goals
      cases e_1 with
      | nil =>
        try dsimp only [cond_false, cond_true]
        all_goals rfl
      | cons y_2309 y_2310 =>
        try dsimp only [cond_false, cond_true]
        all_goals rfl
noncomputable def chkG_a0 :=
  fun (ih : List Ln → Bool) (q_2314 : List Ln) (tab : Tb) (fs : List Ln) (θ : Th) (h_0 : Ln) (a_2313 : Ln) => ((Bool.rec (motive := fun _ => Bool) false (ih q_2314) (eqL tab fs (sbL θ h_0) a_2313)) : Bool)
noncomputable def chkG (tab : Tb) (fs : List Ln) (θ : Th) : List Ln → List Ln → Bool :=
  fun e_0 e_1 => List.rec (motive := fun _ => List Ln → Bool) (fun e_1 => (List.rec (motive := fun _ => Bool) true (fun x_2311 x_2312 _ => false) e_1)) (fun h_0 t_0 ih e_1 => (List.rec (motive := fun _ => Bool) false (fun a_2313 q_2314 _ => (chkG_a0 ih q_2314 tab fs θ h_0 a_2313)) e_1)) e_0 e_1
theorem chkG_def (tab : Tb) (fs : List Ln) (θ : Th) (e_0 : List Ln) (e_1 : List Ln) : chkG tab fs θ e_0 e_1 = (match e_0, e_1 with
  | [], [] => true
  | p :: r, a :: q => bif eqL tab fs (sbL θ p) a then chkG tab fs θ r q else false
  | _, _ => false) := by
  cases e_0 with
  | nil =>
    show (List.rec (motive := fun _ => Bool) true (fun x_2315 x_2316 _ => false) e_1) = _
    try simp only [iAddQ_eq, iMulQ_eq, iNegQ_eq, lenQ_eq, nthQ_eq, setQ_eq, appQ_eq, mapQ_eq, allQ_eq, anyQ_eq, dropQ_eq, takeQ_eq, revQ_eq, getDQ_eq, optLQ_eq, brecC]
    all_goals
      cases e_1 with
      | nil =>
        try dsimp only [cond_false, cond_true]
        all_goals rfl
      | cons y_2317 y_2318 =>
        try dsimp only [cond_false, cond_true]
        all_goals rfl
  | cons h_0 t_0 =>
    show (List.rec (motive := fun _ => Bool) false (fun a_2319 q_2320 _ => (Bool.rec (motive := fun _ => Bool) false (chkG tab fs θ t_0 q_2320) (eqL tab fs (sbL θ h_0) a_2319))) e_1) = _
    try simp only [iAddQ_eq, iMulQ_eq, iNegQ_eq, lenQ_eq, nthQ_eq, setQ_eq, appQ_eq, mapQ_eq, allQ_eq, anyQ_eq, dropQ_eq, takeQ_eq, revQ_eq, getDQ_eq, optLQ_eq, brecC]
    all_goals
      cases e_1 with
      | nil =>
        try dsimp only [cond_false, cond_true]
        all_goals rfl
      | cons y_2321 y_2322 =>
        try dsimp only [cond_false, cond_true]
        all_goals
          cases hq_3 : (eqL tab fs ((sbL θ h_0)) y_2321) with
          | false =>
            try dsimp only [cond_false, cond_true]
            all_goals rfl
          | true =>
            try dsimp only [cond_false, cond_true]
            all_goals rfl
/-- the numbers carried along: the same symbols, or found equal -/
noncomputable def chkGR (n : Nat) (tab : Tb) (fs : List Ln) (θ : Th) (P G : List Ln) : Bool :=
  (Bool.rec (motive := fun _ => Bool) (chkG tab fs θ P G) true (Bool.rec (motive := fun _ => Bool) false (isSy n (nat_lit 0) G) (isSy n (nat_lit 0) P)))
theorem chkGR_def (n : Nat) (tab : Tb) (fs : List Ln) (θ : Th) (P G : List Ln) : chkGR n tab fs θ P G = bif (bif isSy n 0 P then isSy n 0 G else false) then true else chkG tab fs θ P G := by
  show (Bool.rec (motive := fun _ => Bool) (chkG tab fs θ P G) true (Bool.rec (motive := fun _ => Bool) false (isSy n (nat_lit 0) G) (isSy n (nat_lit 0) P))) = _
  try simp only [iAddQ_eq, iMulQ_eq, iNegQ_eq, lenQ_eq, nthQ_eq, setQ_eq, appQ_eq, mapQ_eq, allQ_eq, anyQ_eq, dropQ_eq, takeQ_eq, revQ_eq, getDQ_eq, optLQ_eq, brecC]
  all_goals
    cases hq_1 : ((bif (isSy n 0 P) then (isSy n 0 G) else false)) with
    | false =>
      try dsimp only [cond_false, cond_true]
      all_goals rfl
    | true =>
      try dsimp only [cond_false, cond_true]
      all_goals rfl
noncomputable def onePt_a0 :=
  fun (cb : Nat) (p : PE) (ca : Nat) => ((Bool.rec (motive := fun _ => Bool) false (Nat.ble cb p.2.2.2.2.2.2) (Nat.ble ca p.2.2.2.2.2.1)) : Bool)
noncomputable def onePt_a1 :=
  fun (cb : Nat) (p : PE) (ca : Nat) (tab : Tb) (fs : List Ln) (θ : Th) (rk : Option Ln) => ((Bool.rec (motive := fun _ => Bool) false (onePt_a0 cb p ca) (rkLt tab fs θ rk p.2.2.2.2.1)) : Bool)
noncomputable def onePt_a2 :=
  fun (cb : Nat) (p : PE) (ca : Nat) (tab : Tb) (fs : List Ln) (θ : Th) (rk : Option Ln) (n : Nat) (vs : List AV) (A : AH) (pr : List PD) => ((Bool.rec (motive := fun _ => Bool) false (onePt_a1 cb p ca tab fs θ rk) (instPR n tab fs θ p.2.2.1 vs A pr)) : Bool)
noncomputable def onePt (n : Nat) (G : List Ln) (rk : Option Ln) (A : AH) (pr : List PD) (tab : Tb) (fs : List Ln) (ca cb : Nat) (p : PE) (vs : List AV) (θ : Th) : Bool :=
  (Bool.rec (motive := fun _ => Bool) false (onePt_a2 cb p ca tab fs θ rk n vs A pr) (chkGR n tab fs θ p.2.2.2.1 G))
theorem onePt_def (n : Nat) (G : List Ln) (rk : Option Ln) (A : AH) (pr : List PD) (tab : Tb) (fs : List Ln) (ca cb : Nat) (p : PE) (vs : List AV) (θ : Th) : onePt n G rk A pr tab fs ca cb p vs θ = bif chkGR n tab fs θ p.2.2.2.1 G then (bif instPR n tab fs θ p.2.2.1 vs A pr then (bif rkLt tab fs θ rk p.2.2.2.2.1 then (bif Nat.ble ca p.2.2.2.2.2.1 then Nat.ble cb p.2.2.2.2.2.2 else false) else false) else false) else false := by
  show (Bool.rec (motive := fun _ => Bool) false (Bool.rec (motive := fun _ => Bool) false (Bool.rec (motive := fun _ => Bool) false (Bool.rec (motive := fun _ => Bool) false (Nat.ble cb p.2.2.2.2.2.2) (Nat.ble ca p.2.2.2.2.2.1)) (rkLt tab fs θ rk p.2.2.2.2.1)) (instPR n tab fs θ p.2.2.1 vs A pr)) (chkGR n tab fs θ p.2.2.2.1 G)) = _
  try simp only [iAddQ_eq, iMulQ_eq, iNegQ_eq, lenQ_eq, nthQ_eq, setQ_eq, appQ_eq, mapQ_eq, allQ_eq, anyQ_eq, dropQ_eq, takeQ_eq, revQ_eq, getDQ_eq, optLQ_eq, brecC]
  all_goals
    cases hq_1 : (chkGR n tab fs θ p.2.2.2.1 G) with
    | false =>
      try dsimp only [cond_false, cond_true]
      all_goals rfl
    | true =>
      try dsimp only [cond_false, cond_true]
      all_goals
        cases hq_2 : (instPR n tab fs θ p.2.2.1 vs A pr) with
        | false =>
          try dsimp only [cond_false, cond_true]
          all_goals rfl
        | true =>
          try dsimp only [cond_false, cond_true]
          all_goals
            cases hq_3 : (rkLt tab fs θ rk p.2.2.2.2.1) with
            | false =>
              try dsimp only [cond_false, cond_true]
              all_goals rfl
            | true =>
              try dsimp only [cond_false, cond_true]
              all_goals
                cases hq_4 : (Nat.ble ca p.2.2.2.2.2.1) with
                | false =>
                  try dsimp only [cond_false, cond_true]
                  all_goals rfl
                | true =>
                  try dsimp only [cond_false, cond_true]
                  all_goals rfl
noncomputable def uniGR (n : Nat) (P G : List Ln) : Un :=
  (Bool.rec (motive := fun _ => Un) (unR n) (uniG un0 P G) (Nat.beq n (nat_lit 0)))
theorem uniGR_def (n : Nat) (P G : List Ln) : uniGR n P G = bif Nat.beq n 0 then uniG un0 P G else unR n := by
  show (Bool.rec (motive := fun _ => Un) (unR n) (uniG un0 P G) (Nat.beq n (nat_lit 0))) = _
  try simp only [iAddQ_eq, iMulQ_eq, iNegQ_eq, lenQ_eq, nthQ_eq, setQ_eq, appQ_eq, mapQ_eq, allQ_eq, anyQ_eq, dropQ_eq, takeQ_eq, revQ_eq, getDQ_eq, optLQ_eq, brecC]
  all_goals
    cases hq_1 : (Nat.beq n 0) with
    | false =>
      try dsimp only [cond_false, cond_true]
      all_goals rfl
    | true =>
      try dsimp only [cond_false, cond_true]
      all_goals rfl
/-- a cheap look ahead: constants among the values -/
noncomputable def preVs_a0 :=
  fun (ih : List AV → Bool) (q_2332 : List AV) (c_2327 : Int) (c_2337 : Int) => ((Bool.rec (motive := fun _ => Bool) false (ih q_2332) (eqI c_2327 c_2337)) : Bool)
noncomputable def preVs (tab : Tb) : List AV → List AV → Bool :=
  fun e_0 e_1 => List.rec (motive := fun _ => List AV → Bool) (fun e_1 => true) (fun h_0 t_0 ih e_1 => (Sum.rec (motive := fun _ => Bool) (fun x_2323 => (Prod.rec (motive := fun _ => Bool) (fun x_2325 x_2326 => (Prod.rec (motive := fun _ => Bool) (fun c_2327 x_2328 => (List.rec (motive := fun _ => Bool) (List.rec (motive := fun _ => Bool) true (fun x_2331 q_2332 _ => (Sum.rec (motive := fun _ => Bool) (fun x_2333 => (Prod.rec (motive := fun _ => Bool) (fun x_2335 e_2336 => (Option.rec (motive := fun _ => Bool) (ih q_2332) (fun c_2337 => (preVs_a0 ih q_2332 c_2327 c_2337)) (cst tab e_2336))) x_2333)) (fun x_2334 => (ih q_2332)) x_2331)) e_1) (fun x_2329 x_2330 _ => (List.rec (motive := fun _ => Bool) true (fun x_2338 q_2339 _ => (ih q_2339)) e_1)) x_2328)) x_2326)) x_2323)) (fun x_2324 => (List.rec (motive := fun _ => Bool) true (fun x_2340 q_2341 _ => (ih q_2341)) e_1)) h_0)) e_0 e_1
theorem preVs_def (tab : Tb) (e_0 : List AV) (e_1 : List AV) : preVs tab e_0 e_1 = (match e_0, e_1 with
  | .inl (_, (c, [])) :: r, .inl (_, e) :: q => (match cst tab e with
    | some c' => bif eqI c c' then preVs tab r q else false
    | none => preVs tab r q)
  | _ :: r, _ :: q => preVs tab r q
  | _, _ => true) := by
  cases e_0 with
  | nil =>
    show true = _
    try simp only [iAddQ_eq, iMulQ_eq, iNegQ_eq, lenQ_eq, nthQ_eq, setQ_eq, appQ_eq, mapQ_eq, allQ_eq, anyQ_eq, dropQ_eq, takeQ_eq, revQ_eq, getDQ_eq, optLQ_eq, brecC]
    all_goals rfl
  | cons h_0 t_0 =>
    show (Sum.rec (motive := fun _ => Bool) (fun x_2342 => (Prod.rec (motive := fun _ => Bool) (fun x_2344 x_2345 => (Prod.rec (motive := fun _ => Bool) (fun c_2346 x_2347 => (List.rec (motive := fun _ => Bool) (List.rec (motive := fun _ => Bool) true (fun x_2350 q_2351 _ => (Sum.rec (motive := fun _ => Bool) (fun x_2352 => (Prod.rec (motive := fun _ => Bool) (fun x_2354 e_2355 => (Option.rec (motive := fun _ => Bool) (preVs tab t_0 q_2351) (fun c_2356 => (Bool.rec (motive := fun _ => Bool) false (preVs tab t_0 q_2351) (eqI c_2346 c_2356))) (cst tab e_2355))) x_2352)) (fun x_2353 => (preVs tab t_0 q_2351)) x_2350)) e_1) (fun x_2348 x_2349 _ => (List.rec (motive := fun _ => Bool) true (fun x_2357 q_2358 _ => (preVs tab t_0 q_2358)) e_1)) x_2347)) x_2345)) x_2342)) (fun x_2343 => (List.rec (motive := fun _ => Bool) true (fun x_2359 q_2360 _ => (preVs tab t_0 q_2360)) e_1)) h_0) = _
    try simp only [iAddQ_eq, iMulQ_eq, iNegQ_eq, lenQ_eq, nthQ_eq, setQ_eq, appQ_eq, mapQ_eq, allQ_eq, anyQ_eq, dropQ_eq, takeQ_eq, revQ_eq, getDQ_eq, optLQ_eq, brecC]
    all_goals
      cases h_0 with
      | inl y_2361 =>
        try dsimp only [cond_false, cond_true]
        all_goals
          cases y_2361 with
          | mk y_2362 y_2363 =>
            try dsimp only [cond_false, cond_true]
            all_goals
              cases y_2363 with
              | mk y_2364 y_2365 =>
                try dsimp only [cond_false, cond_true]
                all_goals
                  cases y_2365 with
                  | nil =>
                    try dsimp only [cond_false, cond_true]
                    all_goals
                      cases e_1 with
                      | nil =>
                        try dsimp only [cond_false, cond_true]
                        all_goals rfl
                      | cons y_2366 y_2367 =>
                        try dsimp only [cond_false, cond_true]
                        all_goals
                          cases y_2366 with
                          | inl y_2368 =>
                            try dsimp only [cond_false, cond_true]
                            all_goals
                              cases y_2368 with
                              | mk y_2369 y_2370 =>
                                try dsimp only [cond_false, cond_true]
                                all_goals
                                  cases hq_8 : (cst tab y_2370) with
                                  | none =>
                                    try dsimp only [cond_false, cond_true]
                                    all_goals rfl
                                  | some y_2371 =>
                                    try dsimp only [cond_false, cond_true]
                                    all_goals
                                      cases hq_9 : (eqI y_2364 y_2371) with
                                      | false =>
                                        try dsimp only [cond_false, cond_true]
                                        all_goals rfl
                                      | true =>
                                        try dsimp only [cond_false, cond_true]
                                        all_goals rfl
                          | inr y_2372 =>
                            try dsimp only [cond_false, cond_true]
                            all_goals rfl
                  | cons y_2373 y_2374 =>
                    try dsimp only [cond_false, cond_true]
                    all_goals
                      cases e_1 with
                      | nil =>
                        try dsimp only [cond_false, cond_true]
                        all_goals rfl
                      | cons y_2375 y_2376 =>
                        try dsimp only [cond_false, cond_true]
                        all_goals rfl
      | inr y_2377 =>
        try dsimp only [cond_false, cond_true]
        all_goals
          cases e_1 with
          | nil =>
            try dsimp only [cond_false, cond_true]
            all_goals rfl
          | cons y_2378 y_2379 =>
            try dsimp only [cond_false, cond_true]
            all_goals rfl
noncomputable def atPt_a0 :=
  fun (n : Nat) (tab : Tb) (fs : List Ln) (pr : List PD) (p : PE) (G : List Ln) (st : List AV) (q_2381 : (List AV)) (A : AH) (rk : Option Ln) (ca : Nat) (cb : Nat) => ((withR n (uniP tab fs pr (uniHR n (uniVs (uniGR n p.2.2.2.1 G) p.2.2.1.2.2.2.1 (appQ st q_2381)) p.2.2.1.2.2.2.2.1 A) p.2.2.1.2.2.2.2.2) (onePt n G rk A pr tab fs ca cb p (appQ st q_2381))) : Bool)
noncomputable def atPt_a1 :=
  fun (n : Nat) (tab : Tb) (fs : List Ln) (pr : List PD) (p : PE) (G : List Ln) (st : List AV) (q_2381 : (List AV)) (A : AH) (rk : Option Ln) (ca : Nat) (cb : Nat) => ((Bool.rec (motive := fun _ => Bool) false (atPt_a0 n tab fs pr p G st q_2381 A rk ca cb) (preVs tab p.2.2.1.2.2.2.1 (appQ st q_2381))) : Bool)
noncomputable def atPt_a2 :=
  fun (n : Nat) (tab : Tb) (fs : List Ln) (pr : List PD) (p : PE) (G : List Ln) (st : List AV) (q_2381 : (List AV)) (A : AH) (rk : Option Ln) (ca : Nat) (cb : Nat) => ((Bool.rec (motive := fun _ => Bool) false (atPt_a1 n tab fs pr p G st q_2381 A rk ca cb) (Nat.beq (Nat.add (lenQ st) (lenQ p.2.1)) (lenQ p.2.2.1.2.2.2.1))) : Bool)
noncomputable def atPt (n : Nat) (G : List Ln) (rk : Option Ln) (pc : Nat) (st : List AV) (lv : AL) (A : AH) (pr : List PD) (tab : Tb) (fs : List Ln) (ca cb : Nat) (p : PE) : Bool :=
  (Bool.rec (motive := fun _ => Bool) false (Option.rec (motive := fun _ => Bool) false (fun q_2381 => (atPt_a2 n tab fs pr p G st q_2381 A rk ca cb)) (lvAt lv p.2.1)) (Nat.beq pc p.1))
theorem atPt_def (n : Nat) (G : List Ln) (rk : Option Ln) (pc : Nat) (st : List AV) (lv : AL) (A : AH) (pr : List PD) (tab : Tb) (fs : List Ln) (ca cb : Nat) (p : PE) : atPt n G rk pc st lv A pr tab fs ca cb p = (bif Nat.beq pc p.1 then (match lvAt lv p.2.1 with
  | some q => (bif Nat.beq (Nat.add st.length p.2.1.length) p.2.2.1.2.2.2.1.length then (bif preVs tab p.2.2.1.2.2.2.1 (st ++ q) then withR n (uniP tab fs pr (uniHR n (uniVs (uniGR n p.2.2.2.1 G) p.2.2.1.2.2.2.1 (st ++ q)) p.2.2.1.2.2.2.2.1 A) p.2.2.1.2.2.2.2.2) (onePt n G rk A pr tab fs ca cb p (st ++ q)) else false) else false)
  | none => false) else false) := by
  show (Bool.rec (motive := fun _ => Bool) false (Option.rec (motive := fun _ => Bool) false (fun q_2380 => (Bool.rec (motive := fun _ => Bool) false (Bool.rec (motive := fun _ => Bool) false (withR n (uniP tab fs pr (uniHR n (uniVs (uniGR n p.2.2.2.1 G) p.2.2.1.2.2.2.1 (appQ st q_2380)) p.2.2.1.2.2.2.2.1 A) p.2.2.1.2.2.2.2.2) (onePt n G rk A pr tab fs ca cb p (appQ st q_2380))) (preVs tab p.2.2.1.2.2.2.1 (appQ st q_2380))) (Nat.beq (Nat.add (lenQ st) (lenQ p.2.1)) (lenQ p.2.2.1.2.2.2.1)))) (lvAt lv p.2.1)) (Nat.beq pc p.1)) = _
  try simp only [iAddQ_eq, iMulQ_eq, iNegQ_eq, lenQ_eq, nthQ_eq, setQ_eq, appQ_eq, mapQ_eq, allQ_eq, anyQ_eq, dropQ_eq, takeQ_eq, revQ_eq, getDQ_eq, optLQ_eq, brecC]
  all_goals
    cases hq_1 : (Nat.beq pc p.1) with
    | false =>
      try dsimp only [cond_false, cond_true]
      all_goals rfl
    | true =>
      try dsimp only [cond_false, cond_true]
      all_goals
        cases hq_2 : (lvAt lv p.2.1) with
        | none =>
          try dsimp only [cond_false, cond_true]
          all_goals rfl
        | some y_2382 =>
          try dsimp only [cond_false, cond_true]
          all_goals
            cases hq_3 : (Nat.beq ((Nat.add st.length p.2.1.length)) p.2.2.1.2.2.2.1.length) with
            | false =>
              try dsimp only [cond_false, cond_true]
              all_goals rfl
            | true =>
              try dsimp only [cond_false, cond_true]
              all_goals
                cases hq_4 : (preVs tab p.2.2.1.2.2.2.1 ((st ++ y_2382))) with
                | false =>
                  try dsimp only [cond_false, cond_true]
                  all_goals rfl
                | true =>
                  try dsimp only [cond_false, cond_true]
                  all_goals rfl
noncomputable def anyPt_a0 :=
  fun (ih : Bool) (n : Nat) (G : List Ln) (rk : Option Ln) (pc : Nat) (st : List AV) (lv : AL) (A : AH) (pr : List PD) (tab : Tb) (fs : List Ln) (ca : Nat) (cb : Nat) (h_0 : PE) => ((Bool.rec (motive := fun _ => Bool) (ih) true (atPt n G rk pc st lv A pr tab fs ca cb h_0)) : Bool)
noncomputable def anyPt (n : Nat) (G : List Ln) (rk : Option Ln) (pc : Nat) (st : List AV) (lv : AL) (A : AH) (pr : List PD) (tab : Tb) (fs : List Ln) (ca cb : Nat) : List PE → Bool :=
  fun e_0 => List.rec (motive := fun _ => Bool) false (fun h_0 t_0 ih => (anyPt_a0 ih n G rk pc st lv A pr tab fs ca cb h_0)) e_0 
theorem anyPt_def (n : Nat) (G : List Ln) (rk : Option Ln) (pc : Nat) (st : List AV) (lv : AL) (A : AH) (pr : List PD) (tab : Tb) (fs : List Ln) (ca cb : Nat) (e_0 : List PE) : anyPt n G rk pc st lv A pr tab fs ca cb e_0 = (match e_0 with
  | [] => false
  | p :: r => bif atPt n G rk pc st lv A pr tab fs ca cb p then true else anyPt n G rk pc st lv A pr tab fs ca cb r) := by
  cases e_0 with
  | nil =>
    show false = _
    try simp only [iAddQ_eq, iMulQ_eq, iNegQ_eq, lenQ_eq, nthQ_eq, setQ_eq, appQ_eq, mapQ_eq, allQ_eq, anyQ_eq, dropQ_eq, takeQ_eq, revQ_eq, getDQ_eq, optLQ_eq, brecC]
    all_goals rfl
  | cons h_0 t_0 =>
    show (Bool.rec (motive := fun _ => Bool) (anyPt n G rk pc st lv A pr tab fs ca cb t_0) true (atPt n G rk pc st lv A pr tab fs ca cb h_0)) = _
    try simp only [iAddQ_eq, iMulQ_eq, iNegQ_eq, lenQ_eq, nthQ_eq, setQ_eq, appQ_eq, mapQ_eq, allQ_eq, anyQ_eq, dropQ_eq, takeQ_eq, revQ_eq, getDQ_eq, optLQ_eq, brecC]
    all_goals
      cases hq_1 : (atPt n G rk pc st lv A pr tab fs ca cb h_0) with
      | false =>
        try dsimp only [cond_false, cond_true]
        all_goals rfl
      | true =>
        try dsimp only [cond_false, cond_true]
        all_goals rfl
abbrev KK : Type := Nat → List AV → AL → AH → List PD → Nat → Tb → List Ln → Nat → Nat → Bool
noncomputable def pushF (nx : Nat) (fs : List Ln) (f : Option Ln) : List Ln :=
  (Option.rec (motive := fun _ => List Ln) fs (fun e_2384 => ((subL (sL nx) e_2384) :: fs)) f)
theorem pushF_def (nx : Nat) (fs : List Ln) (f : Option Ln) : pushF nx fs f = (match f with
  | some e => subL (sL nx) e :: fs
  | none => fs) := by
  show (Option.rec (motive := fun _ => List Ln) fs (fun e_2383 => ((subL (sL nx) e_2383) :: fs)) f) = _
  all_goals
    cases f with
    | none =>
      try dsimp only [cond_false, cond_true]
      all_goals rfl
    | some y_2385 =>
      try dsimp only [cond_false, cond_true]
      all_goals rfl
noncomputable def pushR_a0 :=
  fun (k : Nat → Tb → List Ln → AV → Bool) (nx : Nat) (tab : Tb) (fs : List Ln) (lg_2398 : Bool) (e_2400 : Ln) => ((k nx tab fs (.inl (lg_2398, e_2400))) : Bool)
noncomputable def pushR_a1 :=
  fun (k : Nat → Tb → List Ln → AV → Bool) (nx : Nat) (lo_2402 : Int) (hi_2404 : Int) (tab : Tb) (fs : List Ln) (f_2405 : Option Ln) (lg_2398 : Bool) => ((k (Nat.succ nx) (tbIns nx lo_2402 hi_2404 tab) (pushF nx fs f_2405) (.inl (lg_2398, (sL nx)))) : Bool)
noncomputable def pushR_a2 :=
  fun (k : Nat → Tb → List Ln → AV → Bool) (nx : Nat) (tab : Tb) (fs : List Ln) (lg_2398 : Bool) (lo_2402 : Int) => ((k nx tab fs (.inl (lg_2398, (kL lo_2402)))) : Bool)
noncomputable def pushR_a3 :=
  fun (k : Nat → Tb → List Ln → AV → Bool) (nx : Nat) (lo_2402 : Int) (hi_2404 : Int) (tab : Tb) (fs : List Ln) (f_2405 : Option Ln) (lg_2398 : Bool) => ((Bool.rec (motive := fun _ => Bool) (pushR_a1 k nx lo_2402 hi_2404 tab fs f_2405 lg_2398) (pushR_a2 k nx tab fs lg_2398 lo_2402) (eqI lo_2402 hi_2404)) : Bool)
noncomputable def pushR (nx : Nat) (tab : Tb) (fs : List Ln) (r : RV) (k : Nat → Tb → List Ln → AV → Bool) : Bool :=
  (Sum.rec (motive := fun _ => Bool) (fun v_2396 => (k nx tab fs v_2396)) (fun x_2397 => (Prod.rec (motive := fun _ => Bool) (fun lg_2398 x_2399 => (Sum.rec (motive := fun _ => Bool) (fun e_2400 => (pushR_a0 k nx tab fs lg_2398 e_2400)) (fun x_2401 => (Prod.rec (motive := fun _ => Bool) (fun lo_2402 x_2403 => (Prod.rec (motive := fun _ => Bool) (fun hi_2404 f_2405 => (pushR_a3 k nx lo_2402 hi_2404 tab fs f_2405 lg_2398)) x_2403)) x_2401)) x_2399)) x_2397)) r)
theorem pushR_def (nx : Nat) (tab : Tb) (fs : List Ln) (r : RV) (k : Nat → Tb → List Ln → AV → Bool) : pushR nx tab fs r k = (match r with
  | .inl v => k nx tab fs v
  | .inr (lg, .inl e) => k nx tab fs (.inl (lg, e))
  | .inr (lg, .inr (lo, hi, f)) => bif eqI lo hi then k nx tab fs (.inl (lg, kL lo)) else k (Nat.succ nx) (tbIns nx lo hi tab) (pushF nx fs f) (.inl (lg, sL nx))) := by
  show (Sum.rec (motive := fun _ => Bool) (fun v_2386 => (k nx tab fs v_2386)) (fun x_2387 => (Prod.rec (motive := fun _ => Bool) (fun lg_2388 x_2389 => (Sum.rec (motive := fun _ => Bool) (fun e_2390 => (k nx tab fs (.inl (lg_2388, e_2390)))) (fun x_2391 => (Prod.rec (motive := fun _ => Bool) (fun lo_2392 x_2393 => (Prod.rec (motive := fun _ => Bool) (fun hi_2394 f_2395 => (Bool.rec (motive := fun _ => Bool) (k (Nat.succ nx) (tbIns nx lo_2392 hi_2394 tab) (pushF nx fs f_2395) (.inl (lg_2388, (sL nx)))) (k nx tab fs (.inl (lg_2388, (kL lo_2392)))) (eqI lo_2392 hi_2394))) x_2393)) x_2391)) x_2389)) x_2387)) r) = _
  try simp only [iAddQ_eq, iMulQ_eq, iNegQ_eq, lenQ_eq, nthQ_eq, setQ_eq, appQ_eq, mapQ_eq, allQ_eq, anyQ_eq, dropQ_eq, takeQ_eq, revQ_eq, getDQ_eq, optLQ_eq, brecC]
  all_goals
    cases r with
    | inl y_2406 =>
      try dsimp only [cond_false, cond_true]
      all_goals rfl
    | inr y_2407 =>
      try dsimp only [cond_false, cond_true]
      all_goals
        cases y_2407 with
        | mk y_2408 y_2409 =>
          try dsimp only [cond_false, cond_true]
          all_goals
            cases y_2409 with
            | inl y_2410 =>
              try dsimp only [cond_false, cond_true]
              all_goals rfl
            | inr y_2411 =>
              try dsimp only [cond_false, cond_true]
              all_goals
                cases y_2411 with
                | mk y_2412 y_2413 =>
                  try dsimp only [cond_false, cond_true]
                  all_goals
                    cases y_2413 with
                    | mk y_2414 y_2415 =>
                      try dsimp only [cond_false, cond_true]
                      all_goals
                        cases hq_6 : (eqI y_2412 y_2414) with
                        | false =>
                          try dsimp only [cond_false, cond_true]
                          all_goals rfl
                        | true =>
                          try dsimp only [cond_false, cond_true]
                          all_goals rfl
noncomputable def onO (r : Option (Tb × List Ln)) (f : Tb → List Ln → Bool) : Bool := match r with
  | some (t, g) => f t g
  | none => true
noncomputable def onJ (r : Option Nat) (f : Nat → Bool) : Bool := match r with
  | some t => f t
  | none => false
noncomputable def br (k : Nat → Tb → List Ln → Bool) (c : Jvm.ClassFile.Cond) (tab : Tb) (fs : List Ln) (x y : Ln) (t e : Nat) : Bool := bif onO (asm c tab fs x y) (k t) then onO (asm (negC c) tab fs x y) (k e) else false
/-- of longs: unlike is below or above -/
noncomputable def brC (k : Nat → Tb → List Ln → Bool) (c : Jvm.ClassFile.Cond) (tab : Tb) (fs : List Ln) (x y : Ln) (t e : Nat) : Bool := match c with
  | .eq => bif onO (asm .eq tab fs x y) (k t) then (bif onO (asm .lt tab fs x y) (k e) then onO (asm .gt tab fs x y) (k e) else false) else false
  | .ne => bif onO (asm .eq tab fs x y) (k e) then (bif onO (asm .lt tab fs x y) (k t) then onO (asm .gt tab fs x y) (k t) else false) else false
  | c => br k c tab fs x y t e
noncomputable def tsAll (k : Nat → Tb → List Ln → Bool) (pc : Nat) (tab : Tb) (fs : List Ln) (x : Ln) : Int → List Int → Bool
  | _, [] => true
  | v, off :: r => bif onO (asm .eq tab fs x (kL v)) (fun tab' fs' => onJ (jmpA pc off) (fun t => k t tab' fs')) then tsAll k pc tab fs x (Int.add v 1) r else false
noncomputable def lsAll (k : Nat → Tb → List Ln → Bool) (pc : Nat) (tab : Tb) (fs : List Ln) (x : Ln) : List (Int × Int) → Bool
  | [] => true
  | (v, off) :: r => bif onO (asm .eq tab fs x (kL v)) (fun tab' fs' => onJ (jmpA pc off) (fun t => k t tab' fs')) then lsAll k pc tab fs x r else false
noncomputable def lsNe (x : Ln) : List (Int × Int) → Tb → List Ln → Option (Tb × List Ln)
  | [], tab, fs => some (tab, fs)
  | (v, _) :: r, tab, fs => match asm .ne tab fs x (kL v) with
    | some (tab', fs') => lsNe x r tab' fs'
    | none => none
noncomputable def g2 (k : Nat → List AV → Tb → List Ln → Bool) (i : Instr) (pc : Nat) (tab : Tb) (fs : List Ln) (st : List AV) : Bool := match i with
  | .goto off => onJ (jmpA pc off) (fun t => k t st tab fs)
  | .ifCond c off => onJ (jmpA pc off) (fun t => match st with
      | .inl (false, x) :: r => br (fun t => k t r) c tab fs x (kL 0) t (Nat.add pc 3)
      | .inr (.inr (p, q)) :: r => brC (fun t => k t r) c tab fs p q t (Nat.add pc 3)
      | _ => false)
  | .if_icmp c off => onJ (jmpA pc off) (fun t => match st with
      | .inl (false, y) :: .inl (false, x) :: r => br (fun t => k t r) c tab fs x y t (Nat.add pc 3)
      | _ => false)
  | .ifnull off => match st with
    | .inr (.inl (some _)) :: r => k (Nat.add pc 3) r tab fs
    | .inr (.inl none) :: r => onJ (jmpA pc off) (fun t => k t r tab fs)
    | _ => false
  | .ifnonnull off => match st with
    | .inr (.inl (some _)) :: r => onJ (jmpA pc off) (fun t => k t r tab fs)
    | .inr (.inl none) :: r => k (Nat.add pc 3) r tab fs
    | _ => false
  | .tableswitch d lo hi offs => match st with
    | .inl (false, x) :: r => onJ (jmpA pc d) (fun t => bif leI (Int.add (Int.add hi (Int.neg lo)) 1) (.ofNat offs.toList.length) then (bif onO (asm .lt tab fs x (kL lo)) (k t r) then (bif onO (asm .gt tab fs x (kL hi)) (k t r) then tsAll (fun t => k t r) pc tab fs x lo offs.toList else false) else false) else false)
    | _ => false
  | .lookupswitch d ps => match st with
    | .inl (false, x) :: r => onJ (jmpA pc d) (fun t => bif (ps.toList.zip (ps.toList.drop 1)).all (fun (a, next) => a.1 < next.1) then (bif onO (lsNe x ps.toList tab fs) (k t r) then lsAll (fun t => k t r) pc tab fs x ps.toList else false) else false)
    | _ => false
  | _ => false
noncomputable def loopJ_a0 :=
  fun (ih : Nat → Bool) (e_1 : Nat) (f : Nat → Bool) => ((Bool.rec (motive := fun _ => Bool) false (ih (Nat.succ e_1)) (f e_1)) : Bool)
noncomputable def loopJ (f : Nat → Bool) : Nat → Nat → Bool :=
  fun e_0 e_1 => Nat.rec (motive := fun _ => Nat → Bool) (fun e_1 => true) (fun t_0 ih e_1 => (loopJ_a0 ih e_1 f)) e_0 e_1
theorem loopJ_def (f : Nat → Bool) (e_0 : Nat) (e_1 : Nat) : loopJ f e_0 e_1 = (match e_0, e_1 with
  | 0, _ => true
  | c + 1, j => bif f j then loopJ f c (Nat.succ j) else false) := by
  cases e_0 with
  | zero =>
    show true = _
    try simp only [iAddQ_eq, iMulQ_eq, iNegQ_eq, lenQ_eq, nthQ_eq, setQ_eq, appQ_eq, mapQ_eq, allQ_eq, anyQ_eq, dropQ_eq, takeQ_eq, revQ_eq, getDQ_eq, optLQ_eq, brecC]
    all_goals rfl
  | succ t_0 =>
    show (Bool.rec (motive := fun _ => Bool) false (loopJ f t_0 (Nat.succ e_1)) (f e_1)) = _
    try simp only [iAddQ_eq, iMulQ_eq, iNegQ_eq, lenQ_eq, nthQ_eq, setQ_eq, appQ_eq, mapQ_eq, allQ_eq, anyQ_eq, dropQ_eq, takeQ_eq, revQ_eq, getDQ_eq, optLQ_eq, brecC]
    all_goals
      cases hq_1 : (f e_1) with
      | false =>
        try dsimp only [cond_false, cond_true]
        all_goals rfl
      | true =>
        try dsimp only [cond_false, cond_true]
        all_goals rfl
noncomputable def rfA (o : Option Nat) : AV := .inr (.inl o)
noncomputable def aaL (k : List AV → Tb → List Ln → Bool) (tab : Tb) (fs : List Ln) (A : AH) (st : List AV) : Bool := match st with
  | .inl (false, e) :: .inr (.inl (some q)) :: r => (match A[q]? with
    | some (.inr (kk, .inr (.inr l))) => bif Nat.ble 4 kk then (bif Nat.blt kk 8 then (match idxR tab fs e with
      | some (x, u) => bif Nat.blt u l.length then loopJ (fun j => onO (asm .eq tab fs e (kL (.ofNat j))) (fun tab' fs' => k (rfA (l.getD j none) :: r) tab' fs')) (Nat.succ (Nat.sub u x)) x else false
      | none => false) else false) else false
    | _ => false)
  | _ => false
-- a call
noncomputable def sbV_a0 :=
  fun (θ : Th) (p_2430 : Ln) (q_2431 : Ln) => ((.inr (.inr ((sbL θ p_2430), (sbL θ q_2431)))) : AV)
noncomputable def sbV (θ : Th) (a : AV) : AV :=
  (Sum.rec (motive := fun _ => AV) (fun x_2424 => (Prod.rec (motive := fun _ => AV) (fun b_2426 e_2427 => (.inl (b_2426, (sbL θ e_2427)))) x_2424)) (fun x_2425 => (Sum.rec (motive := fun _ => AV) (fun x_2428 => a) (fun x_2429 => (Prod.rec (motive := fun _ => AV) (fun p_2430 q_2431 => (sbV_a0 θ p_2430 q_2431)) x_2429)) x_2425)) a)
theorem sbV_def (θ : Th) (a : AV) : sbV θ a = (match a with
  | .inl (b, e) => .inl (b, sbL θ e)
  | .inr (.inr (p, q)) => .inr (.inr (sbL θ p, sbL θ q))
  | a => a) := by
  show (Sum.rec (motive := fun _ => AV) (fun x_2416 => (Prod.rec (motive := fun _ => AV) (fun b_2418 e_2419 => (.inl (b_2418, (sbL θ e_2419)))) x_2416)) (fun x_2417 => (Sum.rec (motive := fun _ => AV) (fun x_2420 => a) (fun x_2421 => (Prod.rec (motive := fun _ => AV) (fun p_2422 q_2423 => (.inr (.inr ((sbL θ p_2422), (sbL θ q_2423))))) x_2421)) x_2417)) a) = _
  all_goals
    cases a with
    | inl y_2432 =>
      try dsimp only [cond_false, cond_true]
      all_goals
        cases y_2432 with
        | mk y_2433 y_2434 =>
          try dsimp only [cond_false, cond_true]
          all_goals rfl
    | inr y_2435 =>
      try dsimp only [cond_false, cond_true]
      all_goals
        cases y_2435 with
        | inl y_2436 =>
          try dsimp only [cond_false, cond_true]
          all_goals rfl
        | inr y_2437 =>
          try dsimp only [cond_false, cond_true]
          all_goals
            cases y_2437 with
            | mk y_2438 y_2439 =>
              try dsimp only [cond_false, cond_true]
              all_goals rfl
noncomputable def sbS (θ : Th) (s : Sg) : Sg :=
  (Sum.rec (motive := fun _ => Sg) (fun e_2442 => (.inl (sbL θ e_2442))) (fun x_2443 => s) s)
theorem sbS_def (θ : Th) (s : Sg) : sbS θ s = (match s with
  | .inl e => .inl (sbL θ e)
  | s => s) := by
  show (Sum.rec (motive := fun _ => Sg) (fun e_2440 => (.inl (sbL θ e_2440))) (fun x_2441 => s) s) = _
  all_goals
    cases s with
    | inl y_2444 =>
      try dsimp only [cond_false, cond_true]
      all_goals rfl
    | inr y_2445 =>
      try dsimp only [cond_false, cond_true]
      all_goals rfl
noncomputable def sbC_a0 :=
  fun (ci_2456 : Nat) (θ : Th) (as_2457 : List AV) => ((.inl (ci_2456, (mapQ (sbV θ) as_2457))) : AC)
noncomputable def sbC_a1 :=
  fun (k_2458 : Nat) (θ : Th) (s_2460 : List Sg) => ((.inr (k_2458, (.inl (mapQ (sbS θ) s_2460)))) : AC)
noncomputable def sbC (θ : Th) (c : AC) : AC :=
  (Sum.rec (motive := fun _ => AC) (fun x_2454 => (Prod.rec (motive := fun _ => AC) (fun ci_2456 as_2457 => (sbC_a0 ci_2456 θ as_2457)) x_2454)) (fun x_2455 => (Prod.rec (motive := fun _ => AC) (fun k_2458 x_2459 => (Sum.rec (motive := fun _ => AC) (fun s_2460 => (sbC_a1 k_2458 θ s_2460)) (fun x_2461 => c) x_2459)) x_2455)) c)
theorem sbC_def (θ : Th) (c : AC) : sbC θ c = (match c with
  | .inl (ci, as) => .inl (ci, as.map (sbV θ))
  | .inr (k, .inl s) => .inr (k, .inl (s.map (sbS θ)))
  | c => c) := by
  show (Sum.rec (motive := fun _ => AC) (fun x_2446 => (Prod.rec (motive := fun _ => AC) (fun ci_2448 as_2449 => (.inl (ci_2448, (mapQ (sbV θ) as_2449)))) x_2446)) (fun x_2447 => (Prod.rec (motive := fun _ => AC) (fun k_2450 x_2451 => (Sum.rec (motive := fun _ => AC) (fun s_2452 => (.inr (k_2450, (.inl (mapQ (sbS θ) s_2452))))) (fun x_2453 => c) x_2451)) x_2447)) c) = _
  try simp only [iAddQ_eq, iMulQ_eq, iNegQ_eq, lenQ_eq, nthQ_eq, setQ_eq, appQ_eq, mapQ_eq, allQ_eq, anyQ_eq, dropQ_eq, takeQ_eq, revQ_eq, getDQ_eq, optLQ_eq, brecC]
  all_goals
    cases c with
    | inl y_2462 =>
      try dsimp only [cond_false, cond_true]
      all_goals
        cases y_2462 with
        | mk y_2463 y_2464 =>
          try dsimp only [cond_false, cond_true]
          all_goals rfl
    | inr y_2465 =>
      try dsimp only [cond_false, cond_true]
      all_goals
        cases y_2465 with
        | mk y_2466 y_2467 =>
          try dsimp only [cond_false, cond_true]
          all_goals
            cases y_2467 with
            | inl y_2468 =>
              try dsimp only [cond_false, cond_true]
              all_goals rfl
            | inr y_2469 =>
              try dsimp only [cond_false, cond_true]
              all_goals rfl
/-- the outcome's own symbols become new ones -/
noncomputable def thN (θ : Th) (nx pnx : Nat) (s : Nat) : Ln :=
  (Bool.rec (motive := fun _ => Ln) (sL (Nat.add nx (Nat.sub s pnx))) (θ s) (Nat.blt s pnx))
theorem thN_def (θ : Th) (nx pnx : Nat) (s : Nat) : thN θ nx pnx s = bif Nat.blt s pnx then θ s else sL (Nat.add nx (Nat.sub s pnx)) := by
  show (Bool.rec (motive := fun _ => Ln) (sL (Nat.add nx (Nat.sub s pnx))) (θ s) (Nat.blt s pnx)) = _
  try simp only [iAddQ_eq, iMulQ_eq, iNegQ_eq, lenQ_eq, nthQ_eq, setQ_eq, appQ_eq, mapQ_eq, allQ_eq, anyQ_eq, dropQ_eq, takeQ_eq, revQ_eq, getDQ_eq, optLQ_eq, brecC]
  all_goals
    cases hq_1 : (Nat.blt s pnx) with
    | false =>
      try dsimp only [cond_false, cond_true]
      all_goals rfl
    | true =>
      try dsimp only [cond_false, cond_true]
      all_goals rfl
/-- their bounds, below all that was known -/
noncomputable def tbN (tab : Tb) (nx pnx : Nat) (f : Nat → Option (Int × Int)) : Tb :=
  ([], (fun t => (Bool.rec (motive := fun _ => _) (tbLk t tab) (f (Nat.add pnx (Nat.sub t nx))) (Nat.ble nx t))))
theorem tbN_def (tab : Tb) (nx pnx : Nat) (f : Nat → Option (Int × Int)) : tbN tab nx pnx f = ([], fun t => bif Nat.ble nx t then f (Nat.add pnx (Nat.sub t nx)) else tbLk t tab) := by
  show ([], (fun t => (Bool.rec (motive := fun _ => _) (tbLk t tab) (f (Nat.add pnx (Nat.sub t nx))) (Nat.ble nx t)))) = _
  try simp only [iAddQ_eq, iMulQ_eq, iNegQ_eq, lenQ_eq, nthQ_eq, setQ_eq, appQ_eq, mapQ_eq, allQ_eq, anyQ_eq, dropQ_eq, takeQ_eq, revQ_eq, getDQ_eq, optLQ_eq, brecC]
  all_goals rfl
noncomputable def tbO (tab : Tb) (nx pnx onx : Nat) (l : TbL) : Tb :=
  (Bool.rec (motive := fun _ => Tb) (Prod.rec (motive := fun _ => Tb) (fun x_2474 x_2475 => (Prod.rec (motive := fun _ => Tb) (fun f_2476 x_2477 => (tbN tab nx pnx f_2476)) x_2475)) (balT (nat_lit 9) l)) tab (Nat.beq onx pnx))
theorem tbO_def (tab : Tb) (nx pnx onx : Nat) (l : TbL) : tbO tab nx pnx onx l = (bif Nat.beq onx pnx then tab else match balT 9 l with
  | (_, f, _) => tbN tab nx pnx f) := by
  show (Bool.rec (motive := fun _ => Tb) (Prod.rec (motive := fun _ => Tb) (fun x_2470 x_2471 => (Prod.rec (motive := fun _ => Tb) (fun f_2472 x_2473 => (tbN tab nx pnx f_2472)) x_2471)) (balT (nat_lit 9) l)) tab (Nat.beq onx pnx)) = _
  try simp only [iAddQ_eq, iMulQ_eq, iNegQ_eq, lenQ_eq, nthQ_eq, setQ_eq, appQ_eq, mapQ_eq, allQ_eq, anyQ_eq, dropQ_eq, takeQ_eq, revQ_eq, getDQ_eq, optLQ_eq, brecC]
  all_goals
    cases hq_1 : (Nat.beq onx pnx) with
    | false =>
      try dsimp only [cond_false, cond_true]
      all_goals
        cases hq_2 : (balT 9 l) with
        | mk y_2478 y_2479 =>
          try dsimp only [cond_false, cond_true]
          all_goals
            cases y_2479 with
            | mk y_2480 y_2481 =>
              try dsimp only [cond_false, cond_true]
              all_goals rfl
    | true =>
      try dsimp only [cond_false, cond_true]
      all_goals rfl
noncomputable def isFr (e : Ln) (tab : Tb) : Bool :=
  (List.rec (motive := fun _ => Bool) false (fun x_2489 x_2490 _ => (Prod.rec (motive := fun _ => Bool) (fun t_2491 k_2492 => (List.rec (motive := fun _ => Bool) (Bool.rec (motive := fun _ => Bool) false (Bool.rec (motive := fun _ => Bool) false (Option.rec (motive := fun _ => Bool) true (fun x_2495 => false) (tbLk t_2491 tab)) (eqI k_2492 (.ofNat (nat_lit 1)))) (isZ e.1)) (fun x_2493 x_2494 _ => false) x_2490)) x_2489)) e.2)
theorem isFr_def (e : Ln) (tab : Tb) : isFr e tab = (match e.2 with
  | [(t, k)] => bif isZ e.1 then (bif eqI k 1 then (match tbLk t tab with
    | none => true
    | some _ => false) else false) else false
  | _ => false) := by
  show (List.rec (motive := fun _ => Bool) false (fun x_2482 x_2483 _ => (Prod.rec (motive := fun _ => Bool) (fun t_2484 k_2485 => (List.rec (motive := fun _ => Bool) (Bool.rec (motive := fun _ => Bool) false (Bool.rec (motive := fun _ => Bool) false (Option.rec (motive := fun _ => Bool) true (fun x_2488 => false) (tbLk t_2484 tab)) (eqI k_2485 (.ofNat (nat_lit 1)))) (isZ e.1)) (fun x_2486 x_2487 _ => false) x_2483)) x_2482)) e.2) = _
  try simp only [iAddQ_eq, iMulQ_eq, iNegQ_eq, lenQ_eq, nthQ_eq, setQ_eq, appQ_eq, mapQ_eq, allQ_eq, anyQ_eq, dropQ_eq, takeQ_eq, revQ_eq, getDQ_eq, optLQ_eq, brecC]
  all_goals
    cases hq_1 : e.2 with
    | nil =>
      try dsimp only [cond_false, cond_true]
      all_goals rfl
    | cons y_2496 y_2497 =>
      try dsimp only [cond_false, cond_true]
      all_goals
        cases y_2496 with
        | mk y_2498 y_2499 =>
          try dsimp only [cond_false, cond_true]
          all_goals
            cases y_2497 with
            | nil =>
              try dsimp only [cond_false, cond_true]
              all_goals
                cases hq_4 : (isZ e.1) with
                | false =>
                  try dsimp only [cond_false, cond_true]
                  all_goals rfl
                | true =>
                  try dsimp only [cond_false, cond_true]
                  all_goals
                    cases hq_5 : (eqI y_2499 1) with
                    | false =>
                      try dsimp only [cond_false, cond_true]
                      all_goals rfl
                    | true =>
                      try dsimp only [cond_false, cond_true]
                      all_goals
                        cases hq_6 : (tbLk y_2498 tab) with
                        | none =>
                          try dsimp only [cond_false, cond_true]
                          all_goals rfl
                        | some y_2500 =>
                          try dsimp only [cond_false, cond_true]
                          all_goals rfl
            | cons y_2501 y_2502 =>
              try dsimp only [cond_false, cond_true]
              all_goals rfl
noncomputable def hdS (e : Ln) : Nat :=
  (List.rec (motive := fun _ => Nat) (nat_lit 0) (fun x_2507 x_2508 _ => (Prod.rec (motive := fun _ => Nat) (fun t_2509 x_2510 => t_2509) x_2507)) e.2)
theorem hdS_def (e : Ln) : hdS e = (match e.2 with
  | (t, _) :: _ => t
  | [] => 0) := by
  show (List.rec (motive := fun _ => Nat) (nat_lit 0) (fun x_2503 x_2504 _ => (Prod.rec (motive := fun _ => Nat) (fun t_2505 x_2506 => t_2505) x_2503)) e.2) = _
  all_goals
    cases hq_1 : e.2 with
    | nil =>
      try dsimp only [cond_false, cond_true]
      all_goals rfl
    | cons y_2511 y_2512 =>
      try dsimp only [cond_false, cond_true]
      all_goals
        cases y_2511 with
        | mk y_2513 y_2514 =>
          try dsimp only [cond_false, cond_true]
          all_goals rfl
noncomputable def addB_a0 :=
  fun (tab_2519 : Tb) (fs_2520 : List Ln) (lo : Int) (e : Ln) => ((addLe tab_2519 fs_2520 (subL (kL lo) e)) : Option (Tb × List Ln))
noncomputable def addB_a1 :=
  fun (e : Ln) (lo : Int) (hi : Int) (tab : Tb) (fs : List Ln) => ((some ((tbIns (hdS e) lo hi tab), fs)) : Option (Tb × List Ln))
noncomputable def addB (e : Ln) (lo hi : Int) (tab : Tb) (fs : List Ln) : Option (Tb × List Ln) :=
  (Bool.rec (motive := fun _ => Option (Tb × List Ln)) (Option.rec (motive := fun _ => Option (Tb × List Ln)) none (fun x_2518 => (Prod.rec (motive := fun _ => Option (Tb × List Ln)) (fun tab_2519 fs_2520 => (addB_a0 tab_2519 fs_2520 lo e)) x_2518)) (addLe tab fs (pluL e (iNegQ hi)))) (addB_a1 e lo hi tab fs) (isFr e tab))
theorem addB_def (e : Ln) (lo hi : Int) (tab : Tb) (fs : List Ln) : addB e lo hi tab fs = (bif isFr e tab then some (tbIns (hdS e) lo hi tab, fs) else match addLe tab fs (pluL e (Int.neg hi)) with
  | some (tab', fs') => addLe tab' fs' (subL (kL lo) e)
  | none => none) := by
  show (Bool.rec (motive := fun _ => Option (Tb × List Ln)) (Option.rec (motive := fun _ => Option (Tb × List Ln)) none (fun x_2515 => (Prod.rec (motive := fun _ => Option (Tb × List Ln)) (fun tab_2516 fs_2517 => (addLe tab_2516 fs_2517 (subL (kL lo) e))) x_2515)) (addLe tab fs (pluL e (iNegQ hi)))) (some ((tbIns (hdS e) lo hi tab), fs)) (isFr e tab)) = _
  try simp only [iAddQ_eq, iMulQ_eq, iNegQ_eq, lenQ_eq, nthQ_eq, setQ_eq, appQ_eq, mapQ_eq, allQ_eq, anyQ_eq, dropQ_eq, takeQ_eq, revQ_eq, getDQ_eq, optLQ_eq, brecC]
  all_goals
    cases hq_1 : (isFr e tab) with
    | false =>
      try dsimp only [cond_false, cond_true]
      all_goals
        cases hq_2 : (addLe tab fs ((pluL e ((Int.neg hi))))) with
        | none =>
          try dsimp only [cond_false, cond_true]
          all_goals rfl
        | some y_2521 =>
          try dsimp only [cond_false, cond_true]
          all_goals
            cases y_2521 with
            | mk y_2522 y_2523 =>
              try dsimp only [cond_false, cond_true]
              all_goals rfl
    | true =>
      try dsimp only [cond_false, cond_true]
      all_goals rfl
noncomputable def addT' (θ : Th) (pnx : Nat) : TbL → Tb → List Ln → Option (Tb × List Ln) :=
  fun e_0 e_1 e_2 => List.rec (motive := fun _ => Tb → List Ln → Option (Tb × List Ln)) (fun e_1 e_2 => (some (e_1, e_2))) (fun h_0 t_0 ih e_1 e_2 => (Prod.rec (motive := fun _ => Option (Tb × List Ln)) (fun s_2524 x_2525 => (Prod.rec (motive := fun _ => Option (Tb × List Ln)) (fun lo_2526 hi_2527 => (Bool.rec (motive := fun _ => Option (Tb × List Ln)) (some (e_1, e_2)) (Option.rec (motive := fun _ => Option (Tb × List Ln)) none (fun x_2528 => (Prod.rec (motive := fun _ => Option (Tb × List Ln)) (fun tab_2529 fs_2530 => (ih tab_2529 fs_2530)) x_2528)) (addB (θ s_2524) lo_2526 hi_2527 e_1 e_2)) (Nat.blt s_2524 pnx))) x_2525)) h_0)) e_0 e_1 e_2
theorem addT'_def (θ : Th) (pnx : Nat) (e_0 : TbL) (e_1 : Tb) (e_2 : List Ln) : addT' θ pnx e_0 e_1 e_2 = (match e_0, e_1, e_2 with
  | [], tab, fs => some (tab, fs)
  | (s, lo, hi) :: r, tab, fs => bif Nat.blt s pnx then (match addB (θ s) lo hi tab fs with
    | some (tab', fs') => addT' θ pnx r tab' fs'
    | none => none) else some (tab, fs)) := by
  cases e_0 with
  | nil =>
    show (some (e_1, e_2)) = _
    try simp only [iAddQ_eq, iMulQ_eq, iNegQ_eq, lenQ_eq, nthQ_eq, setQ_eq, appQ_eq, mapQ_eq, allQ_eq, anyQ_eq, dropQ_eq, takeQ_eq, revQ_eq, getDQ_eq, optLQ_eq, brecC]
    all_goals rfl
  | cons h_0 t_0 =>
    show (Prod.rec (motive := fun _ => Option (Tb × List Ln)) (fun s_2531 x_2532 => (Prod.rec (motive := fun _ => Option (Tb × List Ln)) (fun lo_2533 hi_2534 => (Bool.rec (motive := fun _ => Option (Tb × List Ln)) (some (e_1, e_2)) (Option.rec (motive := fun _ => Option (Tb × List Ln)) none (fun x_2535 => (Prod.rec (motive := fun _ => Option (Tb × List Ln)) (fun tab_2536 fs_2537 => (addT' θ pnx t_0 tab_2536 fs_2537)) x_2535)) (addB (θ s_2531) lo_2533 hi_2534 e_1 e_2)) (Nat.blt s_2531 pnx))) x_2532)) h_0) = _
    try simp only [iAddQ_eq, iMulQ_eq, iNegQ_eq, lenQ_eq, nthQ_eq, setQ_eq, appQ_eq, mapQ_eq, allQ_eq, anyQ_eq, dropQ_eq, takeQ_eq, revQ_eq, getDQ_eq, optLQ_eq, brecC]
    all_goals
      cases h_0 with
      | mk y_2538 y_2539 =>
        try dsimp only [cond_false, cond_true]
        all_goals
          cases y_2539 with
          | mk y_2540 y_2541 =>
            try dsimp only [cond_false, cond_true]
            all_goals
              cases hq_3 : (Nat.blt y_2538 pnx) with
              | false =>
                try dsimp only [cond_false, cond_true]
                all_goals rfl
              | true =>
                try dsimp only [cond_false, cond_true]
                all_goals
                  cases hq_4 : (addB ((θ y_2538)) y_2540 y_2541 e_1 e_2) with
                  | none =>
                    try dsimp only [cond_false, cond_true]
                    all_goals rfl
                  | some y_2542 =>
                    try dsimp only [cond_false, cond_true]
                    all_goals
                      cases y_2542 with
                      | mk y_2543 y_2544 =>
                        try dsimp only [cond_false, cond_true]
                        all_goals rfl
noncomputable def addF' (θ : Th) : List Ln → Tb → List Ln → Option (Tb × List Ln) :=
  fun e_0 e_1 e_2 => List.rec (motive := fun _ => Tb → List Ln → Option (Tb × List Ln)) (fun e_1 e_2 => (some (e_1, e_2))) (fun h_0 t_0 ih e_1 e_2 => (Option.rec (motive := fun _ => Option (Tb × List Ln)) none (fun x_2545 => (Prod.rec (motive := fun _ => Option (Tb × List Ln)) (fun tab_2546 fs_2547 => (ih tab_2546 fs_2547)) x_2545)) (addLe e_1 e_2 (sbL θ h_0)))) e_0 e_1 e_2
theorem addF'_def (θ : Th) (e_0 : List Ln) (e_1 : Tb) (e_2 : List Ln) : addF' θ e_0 e_1 e_2 = (match e_0, e_1, e_2 with
  | [], tab, fs => some (tab, fs)
  | f :: r, tab, fs => match addLe tab fs (sbL θ f) with
    | some (tab', fs') => addF' θ r tab' fs'
    | none => none) := by
  cases e_0 with
  | nil =>
    show (some (e_1, e_2)) = _
    try simp only [iAddQ_eq, iMulQ_eq, iNegQ_eq, lenQ_eq, nthQ_eq, setQ_eq, appQ_eq, mapQ_eq, allQ_eq, anyQ_eq, dropQ_eq, takeQ_eq, revQ_eq, getDQ_eq, optLQ_eq, brecC]
    all_goals rfl
  | cons h_0 t_0 =>
    show (Option.rec (motive := fun _ => Option (Tb × List Ln)) none (fun x_2548 => (Prod.rec (motive := fun _ => Option (Tb × List Ln)) (fun tab_2549 fs_2550 => (addF' θ t_0 tab_2549 fs_2550)) x_2548)) (addLe e_1 e_2 (sbL θ h_0))) = _
    try simp only [iAddQ_eq, iMulQ_eq, iNegQ_eq, lenQ_eq, nthQ_eq, setQ_eq, appQ_eq, mapQ_eq, allQ_eq, anyQ_eq, dropQ_eq, takeQ_eq, revQ_eq, getDQ_eq, optLQ_eq, brecC]
    all_goals
      cases hq_1 : (addLe e_1 e_2 ((sbL θ h_0))) with
      | none =>
        try dsimp only [cond_false, cond_true]
        all_goals rfl
      | some y_2551 =>
        try dsimp only [cond_false, cond_true]
        all_goals
          cases y_2551 with
          | mk y_2552 y_2553 =>
            try dsimp only [cond_false, cond_true]
            all_goals rfl
/-- a row that the contract doesn't look into: one number, of its own -/
noncomputable def convC_a0 :=
  fun (kh_2574 : Nat) (y : Nat) => ((.inr ((Nat.add kh_2574 (nat_lit 100)), (.inl [(.inl (sL y))]))) : AC)
noncomputable def convC_a1 :=
  fun (kh_2574 : Nat) (s_2576 : List Sg) (y : Nat) => ((Bool.rec (motive := fun _ => AC) (.inr (kh_2574, (.inl s_2576))) (convC_a0 kh_2574 y) (Nat.blt kh_2574 (nat_lit 100))) : AC)
noncomputable def convC_a2 :=
  fun (kh_2574 : Nat) (s_2576 : List Sg) (y : Nat) (kp_2568 : Nat) => ((Bool.rec (motive := fun _ => AC) (.inr (kh_2574, (.inl s_2576))) (convC_a1 kh_2574 s_2576 y) (Nat.ble (nat_lit 100) kp_2568)) : AC)
noncomputable def convC (y : Nat) (p a : AC) : AC :=
  (Sum.rec (motive := fun _ => AC) (fun x_2566 => a) (fun x_2567 => (Prod.rec (motive := fun _ => AC) (fun kp_2568 x_2569 => (Sum.rec (motive := fun _ => AC) (fun x_2570 => (Sum.rec (motive := fun _ => AC) (fun x_2572 => a) (fun x_2573 => (Prod.rec (motive := fun _ => AC) (fun kh_2574 x_2575 => (Sum.rec (motive := fun _ => AC) (fun s_2576 => (convC_a2 kh_2574 s_2576 y kp_2568)) (fun x_2577 => a) x_2575)) x_2573)) a)) (fun x_2571 => a) x_2569)) x_2567)) p)
theorem convC_def (y : Nat) (p a : AC) : convC y p a = (match p, a with
  | .inr (kp, .inl _), .inr (kh, .inl s) => bif Nat.ble 100 kp then (bif Nat.blt kh 100 then .inr (Nat.add kh 100, .inl [.inl (sL y)]) else .inr (kh, .inl s)) else .inr (kh, .inl s)
  | _, a => a) := by
  show (Sum.rec (motive := fun _ => AC) (fun x_2554 => a) (fun x_2555 => (Prod.rec (motive := fun _ => AC) (fun kp_2556 x_2557 => (Sum.rec (motive := fun _ => AC) (fun x_2558 => (Sum.rec (motive := fun _ => AC) (fun x_2560 => a) (fun x_2561 => (Prod.rec (motive := fun _ => AC) (fun kh_2562 x_2563 => (Sum.rec (motive := fun _ => AC) (fun s_2564 => (Bool.rec (motive := fun _ => AC) (.inr (kh_2562, (.inl s_2564))) (Bool.rec (motive := fun _ => AC) (.inr (kh_2562, (.inl s_2564))) (.inr ((Nat.add kh_2562 (nat_lit 100)), (.inl [(.inl (sL y))]))) (Nat.blt kh_2562 (nat_lit 100))) (Nat.ble (nat_lit 100) kp_2556))) (fun x_2565 => a) x_2563)) x_2561)) a)) (fun x_2559 => a) x_2557)) x_2555)) p) = _
  try simp only [iAddQ_eq, iMulQ_eq, iNegQ_eq, lenQ_eq, nthQ_eq, setQ_eq, appQ_eq, mapQ_eq, allQ_eq, anyQ_eq, dropQ_eq, takeQ_eq, revQ_eq, getDQ_eq, optLQ_eq, brecC]
  all_goals
    cases p with
    | inl y_2578 =>
      try dsimp only [cond_false, cond_true]
      all_goals rfl
    | inr y_2579 =>
      try dsimp only [cond_false, cond_true]
      all_goals
        cases y_2579 with
        | mk y_2580 y_2581 =>
          try dsimp only [cond_false, cond_true]
          all_goals
            cases y_2581 with
            | inl y_2582 =>
              try dsimp only [cond_false, cond_true]
              all_goals
                cases a with
                | inl y_2583 =>
                  try dsimp only [cond_false, cond_true]
                  all_goals rfl
                | inr y_2584 =>
                  try dsimp only [cond_false, cond_true]
                  all_goals
                    cases y_2584 with
                    | mk y_2585 y_2586 =>
                      try dsimp only [cond_false, cond_true]
                      all_goals
                        cases y_2586 with
                        | inl y_2587 =>
                          try dsimp only [cond_false, cond_true]
                          all_goals
                            cases hq_7 : (Nat.ble 100 y_2580) with
                            | false =>
                              try dsimp only [cond_false, cond_true]
                              all_goals rfl
                            | true =>
                              try dsimp only [cond_false, cond_true]
                              all_goals
                                cases hq_8 : (Nat.blt y_2585 100) with
                                | false =>
                                  try dsimp only [cond_false, cond_true]
                                  all_goals rfl
                                | true =>
                                  try dsimp only [cond_false, cond_true]
                                  all_goals rfl
                        | inr y_2588 =>
                          try dsimp only [cond_false, cond_true]
                          all_goals rfl
            | inr y_2589 =>
              try dsimp only [cond_false, cond_true]
              all_goals rfl
noncomputable def convH_a0 :=
  fun (nx : Nat) (e_0 : Nat) (h_0 : AC) (a_2590 : AC) (ih : Nat → AH → AH) (as_2591 : List AC) => (((convC (Nat.add nx e_0) h_0 a_2590) :: (ih (Nat.succ e_0) as_2591)) : AH)
noncomputable def convH (nx : Nat) : Nat → AH → AH → AH :=
  fun e_0 e_1 e_2 => List.rec (motive := fun _ => Nat → AH → AH) (fun e_0 e_2 => e_2) (fun h_0 t_0 ih e_0 e_2 => (List.rec (motive := fun _ => AH) e_2 (fun a_2590 as_2591 _ => (convH_a0 nx e_0 h_0 a_2590 ih as_2591)) e_2)) e_1 e_0 e_2
theorem convH_def (nx : Nat) (e_0 : Nat) (e_1 : AH) (e_2 : AH) : convH nx e_0 e_1 e_2 = (match e_0, e_1, e_2 with
  | i, p :: ps, a :: as => convC (Nat.add nx i) p a :: convH nx (Nat.succ i) ps as
  | _, _, A => A) := by
  cases e_1 with
  | nil =>
    show e_2 = _
    try simp only [iAddQ_eq, iMulQ_eq, iNegQ_eq, lenQ_eq, nthQ_eq, setQ_eq, appQ_eq, mapQ_eq, allQ_eq, anyQ_eq, dropQ_eq, takeQ_eq, revQ_eq, getDQ_eq, optLQ_eq, brecC]
    all_goals rfl
  | cons h_0 t_0 =>
    show (List.rec (motive := fun _ => AH) e_2 (fun a_2592 as_2593 _ => ((convC (Nat.add nx e_0) h_0 a_2592) :: (convH nx (Nat.succ e_0) t_0 as_2593))) e_2) = _
    try simp only [iAddQ_eq, iMulQ_eq, iNegQ_eq, lenQ_eq, nthQ_eq, setQ_eq, appQ_eq, mapQ_eq, allQ_eq, anyQ_eq, dropQ_eq, takeQ_eq, revQ_eq, getDQ_eq, optLQ_eq, brecC]
    all_goals
      cases e_2 with
      | nil =>
        try dsimp only [cond_false, cond_true]
        all_goals rfl
      | cons y_2594 y_2595 =>
        try dsimp only [cond_false, cond_true]
        all_goals rfl
/-- a row that came back as it was, or as another was: what was known of that one -/
noncomputable def resC_a0 :=
  fun (y_2637 : Nat) (nx : Nat) (nI : Nat) => ((Bool.rec (motive := fun _ => Bool) false (Nat.blt (Nat.sub y_2637 nx) nI) (Nat.ble nx y_2637)) : Bool)
noncomputable def resC_a1 :=
  fun (y_2637 : Nat) (nx : Nat) (nI : Nat) (w_2638 : Int) => ((Bool.rec (motive := fun _ => Bool) false (resC_a0 y_2637 nx nI) (eqI w_2638 (.ofNat (nat_lit 1)))) : Bool)
noncomputable def resC_a2 :=
  fun (y_2637 : Nat) (nx : Nat) (nI : Nat) (w_2638 : Int) (z_2633 : Int) => ((Bool.rec (motive := fun _ => Bool) false (resC_a1 y_2637 nx nI w_2638) (isZ z_2633)) : Bool)
noncomputable def resC_a3 :=
  fun kh_2646 (k_2625 : Nat) => ((Nat.beq (Nat.add kh_2646 (nat_lit 100)) k_2625) : Bool)
noncomputable def resC_a4 :=
  fun (c : AC) kh_2646 s_2648 (k_2625 : Nat) => ((Bool.rec (motive := fun _ => AC) c (.inr (kh_2646, (.inl s_2648))) (Bool.rec (motive := fun _ => Bool) false (resC_a3 kh_2646 k_2625) (Nat.blt kh_2646 (nat_lit 100)))) : AC)
noncomputable def resC (nx nI : Nat) (H : AH) (c : AC) : AC :=
  (Sum.rec (motive := fun _ => AC) (fun x_2623 => c) (fun x_2624 => (Prod.rec (motive := fun _ => AC) (fun k_2625 x_2626 => (Sum.rec (motive := fun _ => AC) (fun x_2627 => (List.rec (motive := fun _ => AC) c (fun x_2629 x_2630 _ => (Sum.rec (motive := fun _ => AC) (fun x_2631 => (Prod.rec (motive := fun _ => AC) (fun z_2633 x_2634 => (List.rec (motive := fun _ => AC) c (fun x_2635 x_2636 _ => (Prod.rec (motive := fun _ => AC) (fun y_2637 w_2638 => (List.rec (motive := fun _ => AC) (List.rec (motive := fun _ => AC) (Bool.rec (motive := fun _ => AC) c (Option.rec (motive := fun _ => AC) c (fun x_2643 => (Sum.rec (motive := fun _ => AC) (fun x_2644 => c) (fun x_2645 => (Prod.rec (motive := fun _ => AC) (fun kh_2646 x_2647 => (Sum.rec (motive := fun _ => AC) (fun s_2648 => (resC_a4 c kh_2646 s_2648 k_2625)) (fun x_2649 => c) x_2647)) x_2645)) x_2643)) (nthQ H (Nat.sub y_2637 nx))) (Bool.rec (motive := fun _ => Bool) false (resC_a2 y_2637 nx nI w_2638 z_2633) (Nat.ble (nat_lit 100) k_2625))) (fun x_2641 x_2642 _ => c) x_2630) (fun x_2639 x_2640 _ => c) x_2636)) x_2635)) x_2634)) x_2631)) (fun x_2632 => c) x_2629)) x_2627)) (fun x_2628 => c) x_2626)) x_2624)) c)
theorem resC_def (nx nI : Nat) (H : AH) (c : AC) : resC nx nI H c = (match c with
  | .inr (k, .inl [.inl (z, [(y, w)])]) => bif (bif Nat.ble 100 k then (bif isZ z then (bif eqI w 1 then (bif Nat.ble nx y then Nat.blt (Nat.sub y nx) nI else false) else false) else false) else false) then (match H[Nat.sub y nx]? with
    | some (.inr (kh, .inl s)) => bif (bif Nat.blt kh 100 then Nat.beq (Nat.add kh 100) k else false) then .inr (kh, .inl s) else c
    | _ => c) else c
  | c => c) := by
  show (Sum.rec (motive := fun _ => AC) (fun x_2596 => c) (fun x_2597 => (Prod.rec (motive := fun _ => AC) (fun k_2598 x_2599 => (Sum.rec (motive := fun _ => AC) (fun x_2600 => (List.rec (motive := fun _ => AC) c (fun x_2602 x_2603 _ => (Sum.rec (motive := fun _ => AC) (fun x_2604 => (Prod.rec (motive := fun _ => AC) (fun z_2606 x_2607 => (List.rec (motive := fun _ => AC) c (fun x_2608 x_2609 _ => (Prod.rec (motive := fun _ => AC) (fun y_2610 w_2611 => (List.rec (motive := fun _ => AC) (List.rec (motive := fun _ => AC) (Bool.rec (motive := fun _ => AC) c (Option.rec (motive := fun _ => AC) c (fun x_2616 => (Sum.rec (motive := fun _ => AC) (fun x_2617 => c) (fun x_2618 => (Prod.rec (motive := fun _ => AC) (fun kh_2619 x_2620 => (Sum.rec (motive := fun _ => AC) (fun s_2621 => (Bool.rec (motive := fun _ => AC) c (.inr (kh_2619, (.inl s_2621))) (Bool.rec (motive := fun _ => Bool) false (Nat.beq (Nat.add kh_2619 (nat_lit 100)) k_2598) (Nat.blt kh_2619 (nat_lit 100))))) (fun x_2622 => c) x_2620)) x_2618)) x_2616)) (nthQ H (Nat.sub y_2610 nx))) (Bool.rec (motive := fun _ => Bool) false (Bool.rec (motive := fun _ => Bool) false (Bool.rec (motive := fun _ => Bool) false (Bool.rec (motive := fun _ => Bool) false (Nat.blt (Nat.sub y_2610 nx) nI) (Nat.ble nx y_2610)) (eqI w_2611 (.ofNat (nat_lit 1)))) (isZ z_2606)) (Nat.ble (nat_lit 100) k_2598))) (fun x_2614 x_2615 _ => c) x_2603) (fun x_2612 x_2613 _ => c) x_2609)) x_2608)) x_2607)) x_2604)) (fun x_2605 => c) x_2602)) x_2600)) (fun x_2601 => c) x_2599)) x_2597)) c) = _
  try simp only [iAddQ_eq, iMulQ_eq, iNegQ_eq, lenQ_eq, nthQ_eq, setQ_eq, appQ_eq, mapQ_eq, allQ_eq, anyQ_eq, dropQ_eq, takeQ_eq, revQ_eq, getDQ_eq, optLQ_eq, brecC]
  all_goals
    cases c with
    | inl y_2650 =>
      try dsimp only [cond_false, cond_true]
      all_goals rfl
    | inr y_2651 =>
      try dsimp only [cond_false, cond_true]
      all_goals
        cases y_2651 with
        | mk y_2652 y_2653 =>
          try dsimp only [cond_false, cond_true]
          all_goals
            cases y_2653 with
            | inl y_2654 =>
              try dsimp only [cond_false, cond_true]
              all_goals
                cases y_2654 with
                | nil =>
                  try dsimp only [cond_false, cond_true]
                  all_goals rfl
                | cons y_2655 y_2656 =>
                  try dsimp only [cond_false, cond_true]
                  all_goals
                    cases y_2655 with
                    | inl y_2657 =>
                      try dsimp only [cond_false, cond_true]
                      all_goals
                        cases y_2657 with
                        | mk y_2658 y_2659 =>
                          try dsimp only [cond_false, cond_true]
                          all_goals
                            cases y_2659 with
                            | nil =>
                              try dsimp only [cond_false, cond_true]
                              all_goals rfl
                            | cons y_2660 y_2661 =>
                              try dsimp only [cond_false, cond_true]
                              all_goals
                                cases y_2660 with
                                | mk y_2662 y_2663 =>
                                  try dsimp only [cond_false, cond_true]
                                  all_goals
                                    cases y_2661 with
                                    | nil =>
                                      try dsimp only [cond_false, cond_true]
                                      all_goals
                                        cases y_2656 with
                                        | nil =>
                                          try dsimp only [cond_false, cond_true]
                                          all_goals
                                            cases hq_11 : ((bif (Nat.ble 100 y_2652) then ((bif (isZ y_2658) then ((bif (eqI y_2663 1) then ((bif (Nat.ble nx y_2662) then (Nat.blt ((Nat.sub y_2662 nx)) nI) else false)) else false)) else false)) else false)) with
                                            | false =>
                                              try dsimp only [cond_false, cond_true]
                                              all_goals rfl
                                            | true =>
                                              try dsimp only [cond_false, cond_true]
                                              all_goals
                                                cases hq_12 : H[(Nat.sub y_2662 nx)]? with
                                                | none =>
                                                  try dsimp only [cond_false, cond_true]
                                                  all_goals rfl
                                                | some y_2664 =>
                                                  try dsimp only [cond_false, cond_true]
                                                  all_goals
                                                    cases y_2664 with
                                                    | inl y_2665 =>
                                                      try dsimp only [cond_false, cond_true]
                                                      all_goals rfl
                                                    | inr y_2666 =>
                                                      try dsimp only [cond_false, cond_true]
                                                      all_goals
                                                        cases y_2666 with
                                                        | mk y_2667 y_2668 =>
                                                          try dsimp only [cond_false, cond_true]
                                                          all_goals
                                                            cases y_2668 with
                                                            | inl y_2669 =>
                                                              try dsimp only [cond_false, cond_true]
                                                              all_goals
                                                                cases hq_16 : ((bif (Nat.blt y_2667 100) then (Nat.beq ((Nat.add y_2667 100)) y_2652) else false)) with
                                                                | false =>
                                                                  try dsimp only [cond_false, cond_true]
                                                                  all_goals rfl
                                                                | true =>
                                                                  try dsimp only [cond_false, cond_true]
                                                                  all_goals rfl
                                                            | inr y_2670 =>
                                                              try dsimp only [cond_false, cond_true]
                                                              all_goals rfl
                                        | cons y_2671 y_2672 =>
                                          try dsimp only [cond_false, cond_true]
                                          all_goals rfl
                                    | cons y_2673 y_2674 =>
                                      try dsimp only [cond_false, cond_true]
                                      all_goals rfl
                    | inr y_2675 =>
                      try dsimp only [cond_false, cond_true]
                      all_goals rfl
            | inr y_2676 =>
              try dsimp only [cond_false, cond_true]
              all_goals rfl
noncomputable def sameA_a0 :=
  fun (e_2709 : Ln) (e_2721 : Ln) => ((Bool.rec (motive := fun _ => Bool) false (eqT e_2709.2 e_2721.2) (eqI e_2709.1 e_2721.1)) : Bool)
noncomputable def sameA_a1 :=
  fun (e_2709 : Ln) (e_2721 : Ln) (k_2715 : Nat) => ((Bool.rec (motive := fun _ => Bool) false (sameA_a0 e_2709 e_2721) (Nat.ble (nat_lit 100) k_2715)) : Bool)
noncomputable def sameA_a2 :=
  fun (e_2709 : Ln) (e_2721 : Ln) (k_2715 : Nat) (k_2703 : Nat) => ((Bool.rec (motive := fun _ => Bool) false (sameA_a1 e_2709 e_2721 k_2715) (Nat.ble (nat_lit 100) k_2703)) : Bool)
noncomputable def sameA (a b : AC) : Bool :=
  (Sum.rec (motive := fun _ => Bool) (fun x_2701 => false) (fun x_2702 => (Prod.rec (motive := fun _ => Bool) (fun k_2703 x_2704 => (Sum.rec (motive := fun _ => Bool) (fun x_2705 => (List.rec (motive := fun _ => Bool) false (fun x_2707 x_2708 _ => (Sum.rec (motive := fun _ => Bool) (fun e_2709 => (List.rec (motive := fun _ => Bool) (Sum.rec (motive := fun _ => Bool) (fun x_2713 => false) (fun x_2714 => (Prod.rec (motive := fun _ => Bool) (fun k_2715 x_2716 => (Sum.rec (motive := fun _ => Bool) (fun x_2717 => (List.rec (motive := fun _ => Bool) false (fun x_2719 x_2720 _ => (Sum.rec (motive := fun _ => Bool) (fun e_2721 => (List.rec (motive := fun _ => Bool) (sameA_a2 e_2709 e_2721 k_2715 k_2703) (fun x_2723 x_2724 _ => false) x_2720)) (fun x_2722 => false) x_2719)) x_2717)) (fun x_2718 => false) x_2716)) x_2714)) b) (fun x_2711 x_2712 _ => false) x_2708)) (fun x_2710 => false) x_2707)) x_2705)) (fun x_2706 => false) x_2704)) x_2702)) a)
theorem sameA_def (a b : AC) : sameA a b = (match a, b with
  | .inr (k, .inl [.inl e]), .inr (k', .inl [.inl e']) => bif Nat.ble 100 k then (bif Nat.ble 100 k' then (bif eqI e.1 e'.1 then eqT e.2 e'.2 else false) else false) else false
  | _, _ => false) := by
  show (Sum.rec (motive := fun _ => Bool) (fun x_2677 => false) (fun x_2678 => (Prod.rec (motive := fun _ => Bool) (fun k_2679 x_2680 => (Sum.rec (motive := fun _ => Bool) (fun x_2681 => (List.rec (motive := fun _ => Bool) false (fun x_2683 x_2684 _ => (Sum.rec (motive := fun _ => Bool) (fun e_2685 => (List.rec (motive := fun _ => Bool) (Sum.rec (motive := fun _ => Bool) (fun x_2689 => false) (fun x_2690 => (Prod.rec (motive := fun _ => Bool) (fun k_2691 x_2692 => (Sum.rec (motive := fun _ => Bool) (fun x_2693 => (List.rec (motive := fun _ => Bool) false (fun x_2695 x_2696 _ => (Sum.rec (motive := fun _ => Bool) (fun e_2697 => (List.rec (motive := fun _ => Bool) (Bool.rec (motive := fun _ => Bool) false (Bool.rec (motive := fun _ => Bool) false (Bool.rec (motive := fun _ => Bool) false (eqT e_2685.2 e_2697.2) (eqI e_2685.1 e_2697.1)) (Nat.ble (nat_lit 100) k_2691)) (Nat.ble (nat_lit 100) k_2679)) (fun x_2699 x_2700 _ => false) x_2696)) (fun x_2698 => false) x_2695)) x_2693)) (fun x_2694 => false) x_2692)) x_2690)) b) (fun x_2687 x_2688 _ => false) x_2684)) (fun x_2686 => false) x_2683)) x_2681)) (fun x_2682 => false) x_2680)) x_2678)) a) = _
  try simp only [iAddQ_eq, iMulQ_eq, iNegQ_eq, lenQ_eq, nthQ_eq, setQ_eq, appQ_eq, mapQ_eq, allQ_eq, anyQ_eq, dropQ_eq, takeQ_eq, revQ_eq, getDQ_eq, optLQ_eq, brecC]
  all_goals
    cases a with
    | inl y_2725 =>
      try dsimp only [cond_false, cond_true]
      all_goals rfl
    | inr y_2726 =>
      try dsimp only [cond_false, cond_true]
      all_goals
        cases y_2726 with
        | mk y_2727 y_2728 =>
          try dsimp only [cond_false, cond_true]
          all_goals
            cases y_2728 with
            | inl y_2729 =>
              try dsimp only [cond_false, cond_true]
              all_goals
                cases y_2729 with
                | nil =>
                  try dsimp only [cond_false, cond_true]
                  all_goals rfl
                | cons y_2730 y_2731 =>
                  try dsimp only [cond_false, cond_true]
                  all_goals
                    cases y_2730 with
                    | inl y_2732 =>
                      try dsimp only [cond_false, cond_true]
                      all_goals
                        cases y_2731 with
                        | nil =>
                          try dsimp only [cond_false, cond_true]
                          all_goals
                            cases b with
                            | inl y_2733 =>
                              try dsimp only [cond_false, cond_true]
                              all_goals rfl
                            | inr y_2734 =>
                              try dsimp only [cond_false, cond_true]
                              all_goals
                                cases y_2734 with
                                | mk y_2735 y_2736 =>
                                  try dsimp only [cond_false, cond_true]
                                  all_goals
                                    cases y_2736 with
                                    | inl y_2737 =>
                                      try dsimp only [cond_false, cond_true]
                                      all_goals
                                        cases y_2737 with
                                        | nil =>
                                          try dsimp only [cond_false, cond_true]
                                          all_goals rfl
                                        | cons y_2738 y_2739 =>
                                          try dsimp only [cond_false, cond_true]
                                          all_goals
                                            cases y_2738 with
                                            | inl y_2740 =>
                                              try dsimp only [cond_false, cond_true]
                                              all_goals
                                                cases y_2739 with
                                                | nil =>
                                                  try dsimp only [cond_false, cond_true]
                                                  all_goals
                                                    cases hq_13 : (Nat.ble 100 y_2727) with
                                                    | false =>
                                                      try dsimp only [cond_false, cond_true]
                                                      all_goals rfl
                                                    | true =>
                                                      try dsimp only [cond_false, cond_true]
                                                      all_goals
                                                        cases hq_14 : (Nat.ble 100 y_2735) with
                                                        | false =>
                                                          try dsimp only [cond_false, cond_true]
                                                          all_goals rfl
                                                        | true =>
                                                          try dsimp only [cond_false, cond_true]
                                                          all_goals
                                                            cases hq_15 : (eqI y_2732.1 y_2740.1) with
                                                            | false =>
                                                              try dsimp only [cond_false, cond_true]
                                                              all_goals rfl
                                                            | true =>
                                                              try dsimp only [cond_false, cond_true]
                                                              all_goals rfl
                                                | cons y_2741 y_2742 =>
                                                  try dsimp only [cond_false, cond_true]
                                                  all_goals rfl
                                            | inr y_2743 =>
                                              try dsimp only [cond_false, cond_true]
                                              all_goals rfl
                                    | inr y_2744 =>
                                      try dsimp only [cond_false, cond_true]
                                      all_goals rfl
                        | cons y_2745 y_2746 =>
                          try dsimp only [cond_false, cond_true]
                          all_goals rfl
                    | inr y_2747 =>
                      try dsimp only [cond_false, cond_true]
                      all_goals rfl
            | inr y_2748 =>
              try dsimp only [cond_false, cond_true]
              all_goals rfl
noncomputable def getC (H : AH) (i : Nat) : AC :=
  (getDQ H i (.inl ((nat_lit 0), [])))
theorem getC_def (H : AH) (i : Nat) : getC H i = H.getD i (.inl (0, [])) := by
  show (getDQ H i (.inl ((nat_lit 0), []))) = _
  try simp only [iAddQ_eq, iMulQ_eq, iNegQ_eq, lenQ_eq, nthQ_eq, setQ_eq, appQ_eq, mapQ_eq, allQ_eq, anyQ_eq, dropQ_eq, takeQ_eq, revQ_eq, getDQ_eq, optLQ_eq, brecC]
  all_goals rfl
noncomputable def okP_a0 :=
  fun (H' : AH) (h_0 : Nat) (I : List Nat) (H1 : AH) => ((sameA (getC H' (ixA h_0 I)) (getC H1 (ixA h_0 I))) : Bool)
noncomputable def okP_a1 :=
  fun (ih : Bool) (h_0 : Nat) (n : Nat) (H' : AH) (I : List Nat) (H1 : AH) => ((Bool.rec (motive := fun _ => Bool) false (ih) (Bool.rec (motive := fun _ => Bool) (Nat.blt h_0 n) (okP_a0 H' h_0 I H1) (memN h_0 I))) : Bool)
noncomputable def okP (I : List Nat) (n : Nat) (H' H1 : AH) : List Nat → Bool :=
  fun e_0 => List.rec (motive := fun _ => Bool) true (fun h_0 t_0 ih => (okP_a1 ih h_0 n H' I H1)) e_0 
theorem okP_def (I : List Nat) (n : Nat) (H' H1 : AH) (e_0 : List Nat) : okP I n H' H1 e_0 = (match e_0 with
  | [] => true
  | c :: r => bif (bif memN c I then sameA (getC H' (ixA c I)) (getC H1 (ixA c I)) else Nat.blt c n) then okP I n H' H1 r else false) := by
  cases e_0 with
  | nil =>
    show true = _
    try simp only [iAddQ_eq, iMulQ_eq, iNegQ_eq, lenQ_eq, nthQ_eq, setQ_eq, appQ_eq, mapQ_eq, allQ_eq, anyQ_eq, dropQ_eq, takeQ_eq, revQ_eq, getDQ_eq, optLQ_eq, brecC]
    all_goals rfl
  | cons h_0 t_0 =>
    show (Bool.rec (motive := fun _ => Bool) false (okP I n H' H1 t_0) (Bool.rec (motive := fun _ => Bool) (Nat.blt h_0 n) (sameA (getC H' (ixA h_0 I)) (getC H1 (ixA h_0 I))) (memN h_0 I))) = _
    try simp only [iAddQ_eq, iMulQ_eq, iNegQ_eq, lenQ_eq, nthQ_eq, setQ_eq, appQ_eq, mapQ_eq, allQ_eq, anyQ_eq, dropQ_eq, takeQ_eq, revQ_eq, getDQ_eq, optLQ_eq, brecC]
    all_goals
      cases hq_1 : ((bif (memN h_0 I) then (sameA ((getC H' ((ixA h_0 I)))) ((getC H1 ((ixA h_0 I))))) else (Nat.blt h_0 n))) with
      | false =>
        try dsimp only [cond_false, cond_true]
        all_goals rfl
      | true =>
        try dsimp only [cond_false, cond_true]
        all_goals rfl
noncomputable def prSame_a0 :=
  fun (ih : List PD) (h_0 : PD) (I : List Nat) (n : Nat) (H' : AH) (H1 : AH) => ((Bool.rec (motive := fun _ => List PD) (ih) (h_0 :: (ih)) (okP I n H' H1 h_0.2.1)) : List PD)
noncomputable def prSame (I : List Nat) (n : Nat) (H' H1 : AH) : List PD → List PD :=
  fun e_0 => List.rec (motive := fun _ => List PD) [] (fun h_0 t_0 ih => (prSame_a0 ih h_0 I n H' H1)) e_0 
theorem prSame_def (I : List Nat) (n : Nat) (H' H1 : AH) (e_0 : List PD) : prSame I n H' H1 e_0 = (match e_0 with
  | [] => []
  | p :: r => bif okP I n H' H1 p.2.1 then p :: prSame I n H' H1 r else prSame I n H' H1 r) := by
  cases e_0 with
  | nil =>
    show [] = _
    try simp only [iAddQ_eq, iMulQ_eq, iNegQ_eq, lenQ_eq, nthQ_eq, setQ_eq, appQ_eq, mapQ_eq, allQ_eq, anyQ_eq, dropQ_eq, takeQ_eq, revQ_eq, getDQ_eq, optLQ_eq, brecC]
    all_goals rfl
  | cons h_0 t_0 =>
    show (Bool.rec (motive := fun _ => List PD) (prSame I n H' H1 t_0) (h_0 :: (prSame I n H' H1 t_0)) (okP I n H' H1 h_0.2.1)) = _
    try simp only [iAddQ_eq, iMulQ_eq, iNegQ_eq, lenQ_eq, nthQ_eq, setQ_eq, appQ_eq, mapQ_eq, allQ_eq, anyQ_eq, dropQ_eq, takeQ_eq, revQ_eq, getDQ_eq, optLQ_eq, brecC]
    all_goals
      cases hq_1 : (okP I n H' H1 h_0.2.1) with
      | false =>
        try dsimp only [cond_false, cond_true]
        all_goals rfl
      | true =>
        try dsimp only [cond_false, cond_true]
        all_goals rfl
noncomputable def copyTo_a0 :=
  fun (ih : AH → List PD) (H1_2750 : List AC) (kd : Nat) (h_0 : Nat) (ns : List Ln) (c : AC) (h_2749 : AC) => ((Bool.rec (motive := fun _ => List PD) (ih H1_2750) ((kd, [h_0], ns) :: (ih H1_2750)) (sameA c h_2749)) : List PD)
noncomputable def copyTo (kd : Nat) (ns : List Ln) (c : AC) : List Nat → AH → List PD :=
  fun e_0 e_1 => List.rec (motive := fun _ => AH → List PD) (fun e_1 => []) (fun h_0 t_0 ih e_1 => (List.rec (motive := fun _ => List PD) [] (fun h_2749 H1_2750 _ => (copyTo_a0 ih H1_2750 kd h_0 ns c h_2749)) e_1)) e_0 e_1
theorem copyTo_def (kd : Nat) (ns : List Ln) (c : AC) (e_0 : List Nat) (e_1 : AH) : copyTo kd ns c e_0 e_1 = (match e_0, e_1 with
  | i :: I, h :: H1 => bif sameA c h then (kd, [i], ns) :: copyTo kd ns c I H1 else copyTo kd ns c I H1
  | _, _ => []) := by
  cases e_0 with
  | nil =>
    show [] = _
    try simp only [iAddQ_eq, iMulQ_eq, iNegQ_eq, lenQ_eq, nthQ_eq, setQ_eq, appQ_eq, mapQ_eq, allQ_eq, anyQ_eq, dropQ_eq, takeQ_eq, revQ_eq, getDQ_eq, optLQ_eq, brecC]
    all_goals rfl
  | cons h_0 t_0 =>
    show (List.rec (motive := fun _ => List PD) [] (fun h_2751 H1_2752 _ => (Bool.rec (motive := fun _ => List PD) (copyTo kd ns c t_0 H1_2752) ((kd, [h_0], ns) :: (copyTo kd ns c t_0 H1_2752)) (sameA c h_2751))) e_1) = _
    try simp only [iAddQ_eq, iMulQ_eq, iNegQ_eq, lenQ_eq, nthQ_eq, setQ_eq, appQ_eq, mapQ_eq, allQ_eq, anyQ_eq, dropQ_eq, takeQ_eq, revQ_eq, getDQ_eq, optLQ_eq, brecC]
    all_goals
      cases e_1 with
      | nil =>
        try dsimp only [cond_false, cond_true]
        all_goals rfl
      | cons y_2753 y_2754 =>
        try dsimp only [cond_false, cond_true]
        all_goals
          cases hq_2 : (sameA c y_2753) with
          | false =>
            try dsimp only [cond_false, cond_true]
            all_goals rfl
          | true =>
            try dsimp only [cond_false, cond_true]
            all_goals rfl
noncomputable def prCopy_a0 :=
  fun (h_0 : PD) (H' : AH) (q_2755 : Nat) (I : List Nat) (H1 : AH) (ih : List PD) => ((appQ (copyTo h_0.1 h_0.2.2 (getC H' (ixA q_2755 I)) I H1) (ih)) : List PD)
noncomputable def prCopy_a1 :=
  fun (ih : List PD) (h_0 : PD) (H' : AH) (q_2755 : Nat) (I : List Nat) (H1 : AH) => ((Bool.rec (motive := fun _ => List PD) (ih) (prCopy_a0 h_0 H' q_2755 I H1 ih) (memN q_2755 I)) : List PD)
noncomputable def prCopy (I : List Nat) (H' H1 : AH) : List PD → List PD :=
  fun e_0 => List.rec (motive := fun _ => List PD) [] (fun h_0 t_0 ih => (List.rec (motive := fun _ => List PD) (ih) (fun q_2755 x_2756 _ => (List.rec (motive := fun _ => List PD) (prCopy_a1 ih h_0 H' q_2755 I H1) (fun x_2757 x_2758 _ => (ih)) x_2756)) h_0.2.1)) e_0 
theorem prCopy_def (I : List Nat) (H' H1 : AH) (e_0 : List PD) : prCopy I H' H1 e_0 = (match e_0 with
  | [] => []
  | p :: r => match p.2.1 with
    | [q] => bif memN q I then copyTo p.1 p.2.2 (getC H' (ixA q I)) I H1 ++ prCopy I H' H1 r else prCopy I H' H1 r
    | _ => prCopy I H' H1 r) := by
  cases e_0 with
  | nil =>
    show [] = _
    try simp only [iAddQ_eq, iMulQ_eq, iNegQ_eq, lenQ_eq, nthQ_eq, setQ_eq, appQ_eq, mapQ_eq, allQ_eq, anyQ_eq, dropQ_eq, takeQ_eq, revQ_eq, getDQ_eq, optLQ_eq, brecC]
    all_goals rfl
  | cons h_0 t_0 =>
    show (List.rec (motive := fun _ => List PD) (prCopy I H' H1 t_0) (fun q_2759 x_2760 _ => (List.rec (motive := fun _ => List PD) (Bool.rec (motive := fun _ => List PD) (prCopy I H' H1 t_0) (appQ (copyTo h_0.1 h_0.2.2 (getC H' (ixA q_2759 I)) I H1) (prCopy I H' H1 t_0)) (memN q_2759 I)) (fun x_2761 x_2762 _ => (prCopy I H' H1 t_0)) x_2760)) h_0.2.1) = _
    try simp only [iAddQ_eq, iMulQ_eq, iNegQ_eq, lenQ_eq, nthQ_eq, setQ_eq, appQ_eq, mapQ_eq, allQ_eq, anyQ_eq, dropQ_eq, takeQ_eq, revQ_eq, getDQ_eq, optLQ_eq, brecC]
    all_goals
      cases hq_1 : h_0.2.1 with
      | nil =>
        try dsimp only [cond_false, cond_true]
        all_goals rfl
      | cons y_2763 y_2764 =>
        try dsimp only [cond_false, cond_true]
        all_goals
          cases y_2764 with
          | nil =>
            try dsimp only [cond_false, cond_true]
            all_goals
              cases hq_3 : (memN y_2763 I) with
              | false =>
                try dsimp only [cond_false, cond_true]
                all_goals rfl
              | true =>
                try dsimp only [cond_false, cond_true]
                all_goals rfl
          | cons y_2765 y_2766 =>
            try dsimp only [cond_false, cond_true]
            all_goals rfl
noncomputable def prSb (θ : Th) (pr : List PD) : List PD :=
  (mapQ (fun p => (p.1, p.2.1, (mapQ (sbL θ) p.2.2))) pr)
theorem prSb_def (θ : Th) (pr : List PD) : prSb θ pr = pr.map (fun p => (p.1, p.2.1, p.2.2.map (sbL θ))) := by
  show (mapQ (fun p => (p.1, p.2.1, (mapQ (sbL θ) p.2.2))) pr) = _
  try simp only [iAddQ_eq, iMulQ_eq, iNegQ_eq, lenQ_eq, nthQ_eq, setQ_eq, appQ_eq, mapQ_eq, allQ_eq, anyQ_eq, dropQ_eq, takeQ_eq, revQ_eq, getDQ_eq, optLQ_eq, brecC]
  all_goals rfl
noncomputable def outK_a0 :=
  fun (A : AH) (H1 : AH) => ((Nat.blt (Nat.add (lenQ A) (lenQ H1)) sIdx) : Bool)
noncomputable def outK_a1 :=
  fun (A : AH) (H1 : AH) => ((Bool.rec (motive := fun _ => Bool) false (outK_a0 A H1) (allQ (okCA (lenQ A)) A)) : Bool)
noncomputable def outK_a2 :=
  fun (k : KK) (pc : Nat) (θo : Th) (o : Ot) (rest : List AV) (lv : AL) (A : AH) (I : List Nat) (nx : Nat) (H : AH) (H1 : AH) (H' : AH) (pr : List PD) (pnx : Nat) (tab2 : Tb) (fs2 : List Ln) (ca : Nat) (cb : Nat) => ((k (Nat.add pc (nat_lit 3)) (appQ (mapQ (sbV θo) o.1.2.2.2.1) rest) lv (aPasteZ A I (mapQ (resC nx (lenQ I) H) H1)) (appQ (prSame I (lenQ A) H' H1 pr) (appQ (prCopy I H' H1 pr) (prBack I (lenQ A) (lenQ H1) (prSb θo o.1.2.2.2.2.2)))) (Nat.add (Nat.add nx (lenQ I)) (Nat.sub o.1.1 pnx)) tab2 fs2 (Nat.add ca o.2.1) (Nat.add cb o.2.2)) : Bool)
noncomputable def outK_a3 :=
  fun (k : KK) (pc : Nat) (θo : Th) (o : Ot) (rest : List AV) (lv : AL) (A : AH) (I : List Nat) (nx : Nat) (H : AH) (H1 : AH) (H' : AH) (pr : List PD) (pnx : Nat) (tab2 : Tb) (fs2 : List Ln) (ca : Nat) (cb : Nat) => ((Bool.rec (motive := fun _ => Bool) false (outK_a2 k pc θo o rest lv A I nx H H1 H' pr pnx tab2 fs2 ca cb) (Bool.rec (motive := fun _ => Bool) (outK_a1 A H1) true (Nat.beq (lenQ H1) (lenQ I)))) : Bool)
noncomputable def outK_a4 :=
  fun (k : KK) (pc : Nat) (θo : Th) (o : Ot) (rest : List AV) (lv : AL) (A : AH) (I : List Nat) (nx : Nat) (H : AH) (H1 : AH) (H' : AH) (pr : List PD) (pnx : Nat) (tab2 : Tb) (fs2 : List Ln) (ca : Nat) (cb : Nat) => ((Bool.rec (motive := fun _ => Bool) false (outK_a3 k pc θo o rest lv A I nx H H1 H' pr pnx tab2 fs2 ca cb) (allQ (okCA (lenQ H1)) H1)) : Bool)
noncomputable def outK (k : KK) (pc : Nat) (rest : List AV) (lv : AL) (A : AH) (pr : List PD) (nx : Nat) (ca cb : Nat) (θo : Th) (I : List Nat) (H H' : AH) (pnx : Nat) (o : Ot) (tab2 : Tb) (fs2 : List Ln) (H1 : AH) : Bool :=
  (Bool.rec (motive := fun _ => Bool) false (outK_a4 k pc θo o rest lv A I nx H H1 H' pr pnx tab2 fs2 ca cb) (Nat.ble (lenQ I) (lenQ H1)))
theorem outK_def (k : KK) (pc : Nat) (rest : List AV) (lv : AL) (A : AH) (pr : List PD) (nx : Nat) (ca cb : Nat) (θo : Th) (I : List Nat) (H H' : AH) (pnx : Nat) (o : Ot) (tab2 : Tb) (fs2 : List Ln) (H1 : AH) : outK k pc rest lv A pr nx ca cb θo I H H' pnx o tab2 fs2 H1 = bif Nat.ble I.length H1.length then (bif H1.all (okCA H1.length) then (bif (bif Nat.beq H1.length I.length then true else bif A.all (okCA A.length) then Nat.blt (Nat.add A.length H1.length) sIdx else false) then k (Nat.add pc 3) (o.1.2.2.2.1.map (sbV θo) ++ rest) lv (aPasteZ A I (H1.map (resC nx I.length H))) (prSame I A.length H' H1 pr ++ (prCopy I H' H1 pr ++ prBack I A.length H1.length (prSb θo o.1.2.2.2.2.2))) (Nat.add (Nat.add nx I.length) (Nat.sub o.1.1 pnx)) tab2 fs2 (Nat.add ca o.2.1) (Nat.add cb o.2.2) else false) else false) else false := by
  show (Bool.rec (motive := fun _ => Bool) false (Bool.rec (motive := fun _ => Bool) false (Bool.rec (motive := fun _ => Bool) false (k (Nat.add pc (nat_lit 3)) (appQ (mapQ (sbV θo) o.1.2.2.2.1) rest) lv (aPasteZ A I (mapQ (resC nx (lenQ I) H) H1)) (appQ (prSame I (lenQ A) H' H1 pr) (appQ (prCopy I H' H1 pr) (prBack I (lenQ A) (lenQ H1) (prSb θo o.1.2.2.2.2.2)))) (Nat.add (Nat.add nx (lenQ I)) (Nat.sub o.1.1 pnx)) tab2 fs2 (Nat.add ca o.2.1) (Nat.add cb o.2.2)) (Bool.rec (motive := fun _ => Bool) (Bool.rec (motive := fun _ => Bool) false (Nat.blt (Nat.add (lenQ A) (lenQ H1)) sIdx) (allQ (okCA (lenQ A)) A)) true (Nat.beq (lenQ H1) (lenQ I)))) (allQ (okCA (lenQ H1)) H1)) (Nat.ble (lenQ I) (lenQ H1))) = _
  try simp only [iAddQ_eq, iMulQ_eq, iNegQ_eq, lenQ_eq, nthQ_eq, setQ_eq, appQ_eq, mapQ_eq, allQ_eq, anyQ_eq, dropQ_eq, takeQ_eq, revQ_eq, getDQ_eq, optLQ_eq, brecC]
  all_goals
    cases hq_1 : (Nat.ble I.length H1.length) with
    | false =>
      try dsimp only [cond_false, cond_true]
      all_goals rfl
    | true =>
      try dsimp only [cond_false, cond_true]
      all_goals
        cases hq_2 : (H1.all ((okCA H1.length))) with
        | false =>
          try dsimp only [cond_false, cond_true]
          all_goals rfl
        | true =>
          try dsimp only [cond_false, cond_true]
          all_goals
            cases hq_3 : ((bif (Nat.beq H1.length I.length) then true else (bif (A.all ((okCA A.length))) then (Nat.blt ((Nat.add A.length H1.length)) sIdx) else false))) with
            | false =>
              try dsimp only [cond_false, cond_true]
              all_goals rfl
            | true =>
              try dsimp only [cond_false, cond_true]
              all_goals rfl
noncomputable def outA_a0 :=
  fun (k : KK) (pc : Nat) (rest : List AV) (lv : AL) (A : AH) (pr : List PD) (nx : Nat) (ca : Nat) (cb : Nat) (θ : Th) (I : List Nat) (pnx : Nat) (H : AH) (H' : AH) (o : Ot) (tab2_2777 : Tb) (fs2_2778 : List Ln) => ((outK k pc rest lv A pr nx ca cb (thN θ (Nat.add nx (lenQ I)) pnx) I H H' pnx o tab2_2777 fs2_2778 (mapQ (sbC (thN θ (Nat.add nx (lenQ I)) pnx)) o.1.2.2.2.2.1)) : Bool)
noncomputable def outA (k : KK) (pc : Nat) (rest : List AV) (lv : AL) (A : AH) (pr : List PD) (nx : Nat) (tab : Tb) (fs : List Ln) (ca cb : Nat) (θ : Th) (I : List Nat) (H H' : AH) (pnx : Nat) (o : Ot) : Bool :=
  (Option.rec (motive := fun _ => Bool) true (fun x_2773 => (Prod.rec (motive := fun _ => Bool) (fun tab1_2774 fs1_2775 => (Option.rec (motive := fun _ => Bool) true (fun x_2776 => (Prod.rec (motive := fun _ => Bool) (fun tab2_2777 fs2_2778 => (outA_a0 k pc rest lv A pr nx ca cb θ I pnx H H' o tab2_2777 fs2_2778)) x_2776)) (addF' (thN θ (Nat.add nx (lenQ I)) pnx) o.1.2.2.1 (tbO tab1_2774 (Nat.add nx (lenQ I)) pnx o.1.1 o.1.2.1) fs1_2775))) x_2773)) (addT' θ pnx o.1.2.1 tab fs))
theorem outA_def (k : KK) (pc : Nat) (rest : List AV) (lv : AL) (A : AH) (pr : List PD) (nx : Nat) (tab : Tb) (fs : List Ln) (ca cb : Nat) (θ : Th) (I : List Nat) (H H' : AH) (pnx : Nat) (o : Ot) : outA k pc rest lv A pr nx tab fs ca cb θ I H H' pnx o = (match addT' θ pnx o.1.2.1 tab fs with
  | none => true
  | some (tab1, fs1) => match addF' (thN θ (Nat.add nx I.length) pnx) o.1.2.2.1 (tbO tab1 (Nat.add nx I.length) pnx o.1.1 o.1.2.1) fs1 with
    | none => true
    | some (tab2, fs2) => outK k pc rest lv A pr nx ca cb (thN θ (Nat.add nx I.length) pnx) I H H' pnx o tab2 fs2 (o.1.2.2.2.2.1.map (sbC (thN θ (Nat.add nx I.length) pnx)))) := by
  show (Option.rec (motive := fun _ => Bool) true (fun x_2767 => (Prod.rec (motive := fun _ => Bool) (fun tab1_2768 fs1_2769 => (Option.rec (motive := fun _ => Bool) true (fun x_2770 => (Prod.rec (motive := fun _ => Bool) (fun tab2_2771 fs2_2772 => (outK k pc rest lv A pr nx ca cb (thN θ (Nat.add nx (lenQ I)) pnx) I H H' pnx o tab2_2771 fs2_2772 (mapQ (sbC (thN θ (Nat.add nx (lenQ I)) pnx)) o.1.2.2.2.2.1))) x_2770)) (addF' (thN θ (Nat.add nx (lenQ I)) pnx) o.1.2.2.1 (tbO tab1_2768 (Nat.add nx (lenQ I)) pnx o.1.1 o.1.2.1) fs1_2769))) x_2767)) (addT' θ pnx o.1.2.1 tab fs)) = _
  try simp only [iAddQ_eq, iMulQ_eq, iNegQ_eq, lenQ_eq, nthQ_eq, setQ_eq, appQ_eq, mapQ_eq, allQ_eq, anyQ_eq, dropQ_eq, takeQ_eq, revQ_eq, getDQ_eq, optLQ_eq, brecC]
  all_goals
    cases hq_1 : (addT' θ pnx o.1.2.1 tab fs) with
    | none =>
      try dsimp only [cond_false, cond_true]
      all_goals rfl
    | some y_2779 =>
      try dsimp only [cond_false, cond_true]
      all_goals
        cases y_2779 with
        | mk y_2780 y_2781 =>
          try dsimp only [cond_false, cond_true]
          all_goals
            cases hq_3 : (addF' ((thN θ ((Nat.add nx I.length)) pnx)) o.1.2.2.1 ((tbO y_2780 ((Nat.add nx I.length)) pnx o.1.1 o.1.2.1)) y_2781) with
            | none =>
              try dsimp only [cond_false, cond_true]
              all_goals rfl
            | some y_2782 =>
              try dsimp only [cond_false, cond_true]
              all_goals
                cases y_2782 with
                | mk y_2783 y_2784 =>
                  try dsimp only [cond_false, cond_true]
                  all_goals rfl
noncomputable def outAll_a0 :=
  fun (ih : Bool) (k : Ot → Bool) (h_0 : Ot) => ((Bool.rec (motive := fun _ => Bool) false (ih) (k h_0)) : Bool)
noncomputable def outAll (k : Ot → Bool) : List Ot → Bool :=
  fun e_0 => List.rec (motive := fun _ => Bool) true (fun h_0 t_0 ih => (outAll_a0 ih k h_0)) e_0 
theorem outAll_def (k : Ot → Bool) (e_0 : List Ot) : outAll k e_0 = (match e_0 with
  | [] => true
  | o :: r => bif k o then outAll k r else false) := by
  cases e_0 with
  | nil =>
    show true = _
    try simp only [iAddQ_eq, iMulQ_eq, iNegQ_eq, lenQ_eq, nthQ_eq, setQ_eq, appQ_eq, mapQ_eq, allQ_eq, anyQ_eq, dropQ_eq, takeQ_eq, revQ_eq, getDQ_eq, optLQ_eq, brecC]
    all_goals rfl
  | cons h_0 t_0 =>
    show (Bool.rec (motive := fun _ => Bool) false (outAll k t_0) (k h_0)) = _
    try simp only [iAddQ_eq, iMulQ_eq, iNegQ_eq, lenQ_eq, nthQ_eq, setQ_eq, appQ_eq, mapQ_eq, allQ_eq, anyQ_eq, dropQ_eq, takeQ_eq, revQ_eq, getDQ_eq, optLQ_eq, brecC]
    all_goals
      cases hq_1 : (k h_0) with
      | false =>
        try dsimp only [cond_false, cond_true]
        all_goals rfl
      | true =>
        try dsimp only [cond_false, cond_true]
        all_goals rfl
noncomputable def oneCt_a0 :=
  fun (k : KK) (pc : Nat) (rest : List AV) (lv : AL) (A : AH) (pr : List PD) (nx : Nat) (tab : Tb) (fs : List Ln) (ca : Nat) (cb : Nat) (θ : Th) (I : List Nat) (H : AH) (H' : AH) (C : Ct) => (outAll (outA k pc rest lv A pr nx tab fs ca cb θ I H H' C.2.2.1.1) C.2.2.2)
noncomputable def oneCt_a1 :=
  fun (k : KK) (pc : Nat) (rest : List AV) (lv : AL) (A : AH) (pr : List PD) (nx : Nat) (tab : Tb) (fs : List Ln) (ca : Nat) (cb : Nat) (θ : Th) (I : List Nat) (H : AH) (H' : AH) (C : Ct) => ((some (Bool.rec (motive := fun _ => _) false (oneCt_a0 k pc rest lv A pr nx tab fs ca cb θ I H H' C) (loopJ (fun s => (scL (Nat.add nx (lenQ I)) (θ s))) C.2.2.1.1 (nat_lit 0)))) : Option Bool)
noncomputable def oneCt (k : KK) (pc : Nat) (as' : List AV) (H : AH) (pr' : List PD) (rest : List AV) (lv : AL) (A : AH) (pr : List PD) (nx : Nat) (tab : Tb) (fs : List Ln) (ca cb : Nat) (I : List Nat) (C : Ct) (H' : AH) (θ : Th) : Option Bool :=
  (Bool.rec (motive := fun _ => Option Bool) none (oneCt_a1 k pc rest lv A pr nx tab fs ca cb θ I H H' C) (instP tab fs θ C.2.2.1 as' H' pr'))
theorem oneCt_def (k : KK) (pc : Nat) (as' : List AV) (H : AH) (pr' : List PD) (rest : List AV) (lv : AL) (A : AH) (pr : List PD) (nx : Nat) (tab : Tb) (fs : List Ln) (ca cb : Nat) (I : List Nat) (C : Ct) (H' : AH) (θ : Th) : oneCt k pc as' H pr' rest lv A pr nx tab fs ca cb I C H' θ = bif instP tab fs θ C.2.2.1 as' H' pr' then some (bif loopJ (fun s => scL (Nat.add nx I.length) (θ s)) C.2.2.1.1 0 then outAll (outA k pc rest lv A pr nx tab fs ca cb θ I H H' C.2.2.1.1) C.2.2.2 else false) else none := by
  show (Bool.rec (motive := fun _ => Option Bool) none (some (Bool.rec (motive := fun _ => _) false (outAll (outA k pc rest lv A pr nx tab fs ca cb θ I H H' C.2.2.1.1) C.2.2.2) (loopJ (fun s => (scL (Nat.add nx (lenQ I)) (θ s))) C.2.2.1.1 (nat_lit 0)))) (instP tab fs θ C.2.2.1 as' H' pr')) = _
  try simp only [iAddQ_eq, iMulQ_eq, iNegQ_eq, lenQ_eq, nthQ_eq, setQ_eq, appQ_eq, mapQ_eq, allQ_eq, anyQ_eq, dropQ_eq, takeQ_eq, revQ_eq, getDQ_eq, optLQ_eq, brecC]
  all_goals
    cases hq_1 : (instP tab fs θ C.2.2.1 as' H' pr') with
    | false =>
      try dsimp only [cond_false, cond_true]
      all_goals rfl
    | true =>
      try dsimp only [cond_false, cond_true]
      all_goals rfl
noncomputable def withFO (θ : Un) (k : Th → Option Bool) : Option Bool :=
  (Prod.rec (motive := fun _ => Option Bool) (fun x_2789 x_2790 => (Prod.rec (motive := fun _ => Option Bool) (fun f_2791 x_2792 => (k f_2791)) x_2790)) (balF (nat_lit 9) θ.2))
theorem withFO_def (θ : Un) (k : Th → Option Bool) : withFO θ k = (match balF 9 θ.2 with
  | (_, f, _) => k f) := by
  show (Prod.rec (motive := fun _ => Option Bool) (fun x_2785 x_2786 => (Prod.rec (motive := fun _ => Option Bool) (fun f_2787 x_2788 => (k f_2787)) x_2786)) (balF (nat_lit 9) θ.2)) = _
  all_goals
    cases hq_1 : (balF 9 θ.2) with
    | mk y_2793 y_2794 =>
      try dsimp only [cond_false, cond_true]
      all_goals
        cases y_2794 with
        | mk y_2795 y_2796 =>
          try dsimp only [cond_false, cond_true]
          all_goals rfl
noncomputable def tryCt (k : KK) (pc : Nat) (as' : List AV) (H : AH) (pr' : List PD) (rest : List AV) (lv : AL) (A : AH) (pr : List PD) (nx : Nat) (tab : Tb) (fs : List Ln) (ca cb : Nat) (I : List Nat) (C : Ct) (H' : AH) : Option Bool :=
  (withFO (thOf tab fs C.2.2.1 as' H' pr') (oneCt k pc as' H pr' rest lv A pr nx tab fs ca cb I C H'))
theorem tryCt_def (k : KK) (pc : Nat) (as' : List AV) (H : AH) (pr' : List PD) (rest : List AV) (lv : AL) (A : AH) (pr : List PD) (nx : Nat) (tab : Tb) (fs : List Ln) (ca cb : Nat) (I : List Nat) (C : Ct) (H' : AH) : tryCt k pc as' H pr' rest lv A pr nx tab fs ca cb I C H' = withFO (thOf tab fs C.2.2.1 as' H' pr') (oneCt k pc as' H pr' rest lv A pr nx tab fs ca cb I C H') := by
  show (withFO (thOf tab fs C.2.2.1 as' H' pr') (oneCt k pc as' H pr' rest lv A pr nx tab fs ca cb I C H')) = _
  all_goals rfl
noncomputable def callCt (k : KK) (pc a : Nat) (as' : List AV) (H : AH) (pr' : List PD) (rest : List AV) (lv : AL) (A : AH) (pr : List PD) (nx : Nat) (tab : Tb) (fs : List Ln) (ca cb : Nat) (I : List Nat) : List Ct → Bool :=
  fun e_0 => List.rec (motive := fun _ => Bool) false (fun h_0 t_0 ih => (Bool.rec (motive := fun _ => Bool) (ih) (Option.rec (motive := fun _ => Bool) (ih) (fun b_2797 => b_2797) (tryCt k pc as' H pr' rest lv A pr nx tab fs ca cb I h_0 (convH nx (nat_lit 0) h_0.2.2.1.2.2.2.2.1 H))) (Nat.beq h_0.1 a))) e_0 
theorem callCt_def (k : KK) (pc a : Nat) (as' : List AV) (H : AH) (pr' : List PD) (rest : List AV) (lv : AL) (A : AH) (pr : List PD) (nx : Nat) (tab : Tb) (fs : List Ln) (ca cb : Nat) (I : List Nat) (e_0 : List Ct) : callCt k pc a as' H pr' rest lv A pr nx tab fs ca cb I e_0 = (match e_0 with
  | [] => false
  | C :: r => bif Nat.beq C.1 a then (match tryCt k pc as' H pr' rest lv A pr nx tab fs ca cb I C (convH nx 0 C.2.2.1.2.2.2.2.1 H) with
    | some b => b
    | none => callCt k pc a as' H pr' rest lv A pr nx tab fs ca cb I r) else callCt k pc a as' H pr' rest lv A pr nx tab fs ca cb I r) := by
  cases e_0 with
  | nil =>
    show false = _
    try simp only [iAddQ_eq, iMulQ_eq, iNegQ_eq, lenQ_eq, nthQ_eq, setQ_eq, appQ_eq, mapQ_eq, allQ_eq, anyQ_eq, dropQ_eq, takeQ_eq, revQ_eq, getDQ_eq, optLQ_eq, brecC]
    all_goals rfl
  | cons h_0 t_0 =>
    show (Bool.rec (motive := fun _ => Bool) (callCt k pc a as' H pr' rest lv A pr nx tab fs ca cb I t_0) (Option.rec (motive := fun _ => Bool) (callCt k pc a as' H pr' rest lv A pr nx tab fs ca cb I t_0) (fun b_2798 => b_2798) (tryCt k pc as' H pr' rest lv A pr nx tab fs ca cb I h_0 (convH nx (nat_lit 0) h_0.2.2.1.2.2.2.2.1 H))) (Nat.beq h_0.1 a)) = _
    try simp only [iAddQ_eq, iMulQ_eq, iNegQ_eq, lenQ_eq, nthQ_eq, setQ_eq, appQ_eq, mapQ_eq, allQ_eq, anyQ_eq, dropQ_eq, takeQ_eq, revQ_eq, getDQ_eq, optLQ_eq, brecC]
    all_goals
      cases hq_1 : (Nat.beq h_0.1 a) with
      | false =>
        try dsimp only [cond_false, cond_true]
        all_goals rfl
      | true =>
        try dsimp only [cond_false, cond_true]
        all_goals
          cases hq_2 : (tryCt k pc as' H pr' rest lv A pr nx tab fs ca cb I h_0 ((convH nx 0 h_0.2.2.1.2.2.2.2.1 H))) with
          | none =>
            try dsimp only [cond_false, cond_true]
            all_goals rfl
          | some y_2799 =>
            try dsimp only [cond_false, cond_true]
            all_goals rfl
noncomputable def isClsA (me : ME) (as : List AV) (A : AH) : Bool := match mKd me, as with
  | 0, .inr (.inl (some q)) :: _ => match A[q]? with
    | some (.inl (ci, _)) => bif Nat.beq ci (mOw me) then Nat.blt ci 13 else false
    | _ => false
  | 1, .inr (.inl (some _)) :: _ => true
  | 2, _ => true
  | _, _ => false
noncomputable def g7 (env : List Ct) (k : KK) (i : Instr) (a b pc : Nat) (st : List AV) (lv : AL) (A : AH) (pr : List PD) (nx : Nat) (tab : Tb) (fs : List Ln) (ca cb : Nat) : Bool :=
  bif isCall i then (match meths[a]? with
  | none => false
  | some me => bif Nat.ble b st.length then (bif Nat.ble (((st.drop b).map catA).sum) 8 then (bif (st.drop b).all (okVA A.length) then
    (fun (as : List AV) => bif isClsA me as A then (match aCutZ A as with
    | none => false
    | some I => callCt k pc a (as.map (mpV (fun j => ixA j I))) (aSubZ A I) (prIn I pr) (st.drop b) lv A pr nx tab fs ca cb I env) else false) ((st.take b).reverse) else false) else false) else false) else false
abbrev FN : Type := Option AV → AH → List PD → Tb → List Ln → Nat → Nat → Bool
noncomputable def g6 (fin : FN) (i : Instr) (st : List AV) (A : AH) (pr : List PD) (tab : Tb) (fs : List Ln) (ca cb : Nat) : Bool := match i with
  | .ireturn => match st with
    | [.inl (false, e)] => fin (some (.inl (false, e))) A pr tab fs ca cb
    | _ => false
  | .lreturn => match st with
    | [.inl (true, e)] => fin (some (.inl (true, e))) A pr tab fs ca cb
    | _ => false
  | .return_ => match st with
    | [] => fin none A pr tab fs ca cb
    | _ => false
  | _ => false
noncomputable def st0 (i : Instr) (n a : Nat) (k : KK) (st : List AV) (lv : AL) (A : AH) (pr : List PD) (nx : Nat) (tab : Tb) (fs : List Ln) (ca cb : Nat) : Bool := match g0 i a tab fs lv st with
  | some (rest, r) => pushR nx tab fs r (fun nx tab fs v => k n (v :: rest) lv A pr nx tab fs ca cb)
  | none => false
noncomputable def st1 (i : Instr) (n nL : Nat) (k : KK) (st : List AV) (lv : AL) (A : AH) (pr : List PD) (nx : Nat) (tab : Tb) (fs : List Ln) (ca cb : Nat) : Bool := match i with
  | .iinc x m => (match alGet x lv with
    | some (.inl (false, e)) => bif Nat.blt x nL then (bif leI lo32 m then (bif leI m hi32 then pushR nx tab fs (.inr (false, fitIF tab fs (pluL e m))) (fun nx tab fs v => k n st ((x, v) :: alDel false x lv) A pr nx tab fs ca cb) else false) else false) else false
    | _ => false)
  | _ => match g1 i nL A.length st lv with
    | some (rest, lv') => k n rest lv' A pr nx tab fs ca cb
    | none => false
/-- an element that is told -/
noncomputable def findE_a0 :=
  fun (ih : Option Ln) (v_2806 : Ln) (tab : Tb) (fs : List Ln) (e : Ln) (e_2804 : Ln) => ((Bool.rec (motive := fun _ => Option Ln) (ih) (some v_2806) (eqL tab fs e e_2804)) : Option Ln)
noncomputable def findE_a1 :=
  fun (ih : Option Ln) (v_2806 : Ln) (tab : Tb) (fs : List Ln) (e : Ln) (e_2804 : Ln) (q : Nat) (q_2800 : Nat) => ((Bool.rec (motive := fun _ => Option Ln) (ih) (findE_a0 ih v_2806 tab fs e e_2804) (Nat.beq q q_2800)) : Option Ln)
noncomputable def findE (tab : Tb) (fs : List Ln) (q : Nat) (e : Ln) : List PD → Option Ln :=
  fun e_0 => List.rec (motive := fun _ => Option Ln) none (fun h_0 t_0 ih => (Bool.rec (motive := fun _ => Option Ln) (ih) (List.rec (motive := fun _ => Option Ln) (ih) (fun q_2800 x_2801 _ => (List.rec (motive := fun _ => Option Ln) (List.rec (motive := fun _ => Option Ln) (ih) (fun e_2804 x_2805 _ => (List.rec (motive := fun _ => Option Ln) (ih) (fun v_2806 x_2807 _ => (List.rec (motive := fun _ => Option Ln) (findE_a1 ih v_2806 tab fs e e_2804 q q_2800) (fun x_2808 x_2809 _ => (ih)) x_2807)) x_2805)) h_0.2.2) (fun x_2802 x_2803 _ => (ih)) x_2801)) h_0.2.1) (Nat.beq h_0.1 (nat_lit 7)))) e_0 
theorem findE_def (tab : Tb) (fs : List Ln) (q : Nat) (e : Ln) (e_0 : List PD) : findE tab fs q e e_0 = (match e_0 with
  | [] => none
  | p :: r => bif Nat.beq p.1 7 then (match p.2.1, p.2.2 with
    | [q'], [e', v] => bif Nat.beq q q' then (bif eqL tab fs e e' then some v else findE tab fs q e r) else findE tab fs q e r
    | _, _ => findE tab fs q e r) else findE tab fs q e r) := by
  cases e_0 with
  | nil =>
    show none = _
    try simp only [iAddQ_eq, iMulQ_eq, iNegQ_eq, lenQ_eq, nthQ_eq, setQ_eq, appQ_eq, mapQ_eq, allQ_eq, anyQ_eq, dropQ_eq, takeQ_eq, revQ_eq, getDQ_eq, optLQ_eq, brecC]
    all_goals rfl
  | cons h_0 t_0 =>
    show (Bool.rec (motive := fun _ => Option Ln) (findE tab fs q e t_0) (List.rec (motive := fun _ => Option Ln) (findE tab fs q e t_0) (fun q_2810 x_2811 _ => (List.rec (motive := fun _ => Option Ln) (List.rec (motive := fun _ => Option Ln) (findE tab fs q e t_0) (fun e_2814 x_2815 _ => (List.rec (motive := fun _ => Option Ln) (findE tab fs q e t_0) (fun v_2816 x_2817 _ => (List.rec (motive := fun _ => Option Ln) (Bool.rec (motive := fun _ => Option Ln) (findE tab fs q e t_0) (Bool.rec (motive := fun _ => Option Ln) (findE tab fs q e t_0) (some v_2816) (eqL tab fs e e_2814)) (Nat.beq q q_2810)) (fun x_2818 x_2819 _ => (findE tab fs q e t_0)) x_2817)) x_2815)) h_0.2.2) (fun x_2812 x_2813 _ => (findE tab fs q e t_0)) x_2811)) h_0.2.1) (Nat.beq h_0.1 (nat_lit 7))) = _
    try simp only [iAddQ_eq, iMulQ_eq, iNegQ_eq, lenQ_eq, nthQ_eq, setQ_eq, appQ_eq, mapQ_eq, allQ_eq, anyQ_eq, dropQ_eq, takeQ_eq, revQ_eq, getDQ_eq, optLQ_eq, brecC]
    all_goals
      cases hq_1 : (Nat.beq h_0.1 7) with
      | false =>
        try dsimp only [cond_false, cond_true]
        all_goals rfl
      | true =>
        try dsimp only [cond_false, cond_true]
        all_goals
          cases hq_2 : h_0.2.1 with
          | nil =>
            try dsimp only [cond_false, cond_true]
            all_goals rfl
          | cons y_2820 y_2821 =>
            try dsimp only [cond_false, cond_true]
            all_goals
              cases y_2821 with
              | nil =>
                try dsimp only [cond_false, cond_true]
                all_goals
                  cases hq_4 : h_0.2.2 with
                  | nil =>
                    try dsimp only [cond_false, cond_true]
                    all_goals rfl
                  | cons y_2822 y_2823 =>
                    try dsimp only [cond_false, cond_true]
                    all_goals
                      cases y_2823 with
                      | nil =>
                        try dsimp only [cond_false, cond_true]
                        all_goals rfl
                      | cons y_2824 y_2825 =>
                        try dsimp only [cond_false, cond_true]
                        all_goals
                          cases y_2825 with
                          | nil =>
                            try dsimp only [cond_false, cond_true]
                            all_goals
                              cases hq_7 : (Nat.beq q y_2820) with
                              | false =>
                                try dsimp only [cond_false, cond_true]
                                all_goals rfl
                              | true =>
                                try dsimp only [cond_false, cond_true]
                                all_goals
                                  cases hq_8 : (eqL tab fs e y_2822) with
                                  | false =>
                                    try dsimp only [cond_false, cond_true]
                                    all_goals rfl
                                  | true =>
                                    try dsimp only [cond_false, cond_true]
                                    all_goals rfl
                          | cons y_2826 y_2827 =>
                            try dsimp only [cond_false, cond_true]
                            all_goals rfl
              | cons y_2828 y_2829 =>
                try dsimp only [cond_false, cond_true]
                all_goals rfl
noncomputable def prLd_a0 :=
  fun (r_2861 : List AV) (v_2874 : Ln) => ((some (r_2861, (.inl (.inl (false, v_2874))))) : Option SV)
noncomputable def prLd_a1 :=
  fun (r_2861 : List AV) (v_2874 : Ln) (u_2877 : Nat) s_2872 => ((Bool.rec (motive := fun _ => Option SV) none (prLd_a0 r_2861 v_2874) (Nat.blt u_2877 (sgLen s_2872))) : Option SV)
noncomputable def prLd (tab : Tb) (fs : List Ln) (A : AH) (pr : List PD) (st : List AV) : Option SV :=
  (List.rec (motive := fun _ => Option SV) none (fun x_2854 x_2855 _ => (Sum.rec (motive := fun _ => Option SV) (fun x_2856 => (Prod.rec (motive := fun _ => Option SV) (fun x_2858 e_2859 => (Bool.rec (motive := fun _ => Option SV) (List.rec (motive := fun _ => Option SV) none (fun x_2860 r_2861 _ => (Sum.rec (motive := fun _ => Option SV) (fun x_2862 => none) (fun x_2863 => (Sum.rec (motive := fun _ => Option SV) (fun x_2864 => (Option.rec (motive := fun _ => Option SV) none (fun q_2866 => (Option.rec (motive := fun _ => Option SV) none (fun x_2867 => (Sum.rec (motive := fun _ => Option SV) (fun x_2868 => none) (fun x_2869 => (Prod.rec (motive := fun _ => Option SV) (fun k_2870 x_2871 => (Sum.rec (motive := fun _ => Option SV) (fun s_2872 => (Bool.rec (motive := fun _ => Option SV) none (Option.rec (motive := fun _ => Option SV) none (fun v_2874 => (Option.rec (motive := fun _ => Option SV) none (fun x_2875 => (Prod.rec (motive := fun _ => Option SV) (fun x_2876 u_2877 => (prLd_a1 r_2861 v_2874 u_2877 s_2872)) x_2875)) (idxR tab fs e_2859))) (findE tab fs q_2866 e_2859 pr)) (Nat.beq k_2870 (nat_lit 0)))) (fun x_2873 => none) x_2871)) x_2869)) x_2867)) (nthQ A q_2866))) x_2864)) (fun x_2865 => none) x_2863)) x_2860)) x_2855) none x_2858)) x_2856)) (fun x_2857 => none) x_2854)) st)
theorem prLd_def (tab : Tb) (fs : List Ln) (A : AH) (pr : List PD) (st : List AV) : prLd tab fs A pr st = (match st with
  | .inl (false, e) :: .inr (.inl (some q)) :: r => (match A[q]? with
    | some (.inr (k, .inl s)) => bif Nat.beq k 0 then (match findE tab fs q e pr with
      | some v => (match idxR tab fs e with
        | some (_, u) => bif Nat.blt u (sgLen s) then some (r, .inl (.inl (false, v))) else none
        | none => none)
      | none => none) else none
    | _ => none)
  | _ => none) := by
  show (List.rec (motive := fun _ => Option SV) none (fun x_2830 x_2831 _ => (Sum.rec (motive := fun _ => Option SV) (fun x_2832 => (Prod.rec (motive := fun _ => Option SV) (fun x_2834 e_2835 => (Bool.rec (motive := fun _ => Option SV) (List.rec (motive := fun _ => Option SV) none (fun x_2836 r_2837 _ => (Sum.rec (motive := fun _ => Option SV) (fun x_2838 => none) (fun x_2839 => (Sum.rec (motive := fun _ => Option SV) (fun x_2840 => (Option.rec (motive := fun _ => Option SV) none (fun q_2842 => (Option.rec (motive := fun _ => Option SV) none (fun x_2843 => (Sum.rec (motive := fun _ => Option SV) (fun x_2844 => none) (fun x_2845 => (Prod.rec (motive := fun _ => Option SV) (fun k_2846 x_2847 => (Sum.rec (motive := fun _ => Option SV) (fun s_2848 => (Bool.rec (motive := fun _ => Option SV) none (Option.rec (motive := fun _ => Option SV) none (fun v_2850 => (Option.rec (motive := fun _ => Option SV) none (fun x_2851 => (Prod.rec (motive := fun _ => Option SV) (fun x_2852 u_2853 => (Bool.rec (motive := fun _ => Option SV) none (some (r_2837, (.inl (.inl (false, v_2850))))) (Nat.blt u_2853 (sgLen s_2848)))) x_2851)) (idxR tab fs e_2835))) (findE tab fs q_2842 e_2835 pr)) (Nat.beq k_2846 (nat_lit 0)))) (fun x_2849 => none) x_2847)) x_2845)) x_2843)) (nthQ A q_2842))) x_2840)) (fun x_2841 => none) x_2839)) x_2836)) x_2831) none x_2834)) x_2832)) (fun x_2833 => none) x_2830)) st) = _
  try simp only [iAddQ_eq, iMulQ_eq, iNegQ_eq, lenQ_eq, nthQ_eq, setQ_eq, appQ_eq, mapQ_eq, allQ_eq, anyQ_eq, dropQ_eq, takeQ_eq, revQ_eq, getDQ_eq, optLQ_eq, brecC]
  all_goals
    cases st with
    | nil =>
      try dsimp only [cond_false, cond_true]
      all_goals rfl
    | cons y_2878 y_2879 =>
      try dsimp only [cond_false, cond_true]
      all_goals
        cases y_2878 with
        | inl y_2880 =>
          try dsimp only [cond_false, cond_true]
          all_goals
            cases y_2880 with
            | mk y_2881 y_2882 =>
              try dsimp only [cond_false, cond_true]
              all_goals
                cases y_2881 with
                | false =>
                  try dsimp only [cond_false, cond_true]
                  all_goals
                    cases y_2879 with
                    | nil =>
                      try dsimp only [cond_false, cond_true]
                      all_goals rfl
                    | cons y_2883 y_2884 =>
                      try dsimp only [cond_false, cond_true]
                      all_goals
                        cases y_2883 with
                        | inl y_2885 =>
                          try dsimp only [cond_false, cond_true]
                          all_goals rfl
                        | inr y_2886 =>
                          try dsimp only [cond_false, cond_true]
                          all_goals
                            cases y_2886 with
                            | inl y_2887 =>
                              try dsimp only [cond_false, cond_true]
                              all_goals
                                cases y_2887 with
                                | none =>
                                  try dsimp only [cond_false, cond_true]
                                  all_goals rfl
                                | some y_2888 =>
                                  try dsimp only [cond_false, cond_true]
                                  all_goals
                                    cases hq_9 : A[y_2888]? with
                                    | none =>
                                      try dsimp only [cond_false, cond_true]
                                      all_goals rfl
                                    | some y_2889 =>
                                      try dsimp only [cond_false, cond_true]
                                      all_goals
                                        cases y_2889 with
                                        | inl y_2890 =>
                                          try dsimp only [cond_false, cond_true]
                                          all_goals rfl
                                        | inr y_2891 =>
                                          try dsimp only [cond_false, cond_true]
                                          all_goals
                                            cases y_2891 with
                                            | mk y_2892 y_2893 =>
                                              try dsimp only [cond_false, cond_true]
                                              all_goals
                                                cases y_2893 with
                                                | inl y_2894 =>
                                                  try dsimp only [cond_false, cond_true]
                                                  all_goals
                                                    cases hq_13 : (Nat.beq y_2892 0) with
                                                    | false =>
                                                      try dsimp only [cond_false, cond_true]
                                                      all_goals rfl
                                                    | true =>
                                                      try dsimp only [cond_false, cond_true]
                                                      all_goals
                                                        cases hq_14 : (findE tab fs y_2888 y_2882 pr) with
                                                        | none =>
                                                          try dsimp only [cond_false, cond_true]
                                                          all_goals rfl
                                                        | some y_2895 =>
                                                          try dsimp only [cond_false, cond_true]
                                                          all_goals
                                                            cases hq_15 : (idxR tab fs y_2882) with
                                                            | none =>
                                                              try dsimp only [cond_false, cond_true]
                                                              all_goals rfl
                                                            | some y_2896 =>
                                                              try dsimp only [cond_false, cond_true]
                                                              all_goals
                                                                cases y_2896 with
                                                                | mk y_2897 y_2898 =>
                                                                  try dsimp only [cond_false, cond_true]
                                                                  all_goals
                                                                    cases hq_17 : (Nat.blt y_2898 ((sgLen y_2894))) with
                                                                    | false =>
                                                                      try dsimp only [cond_false, cond_true]
                                                                      all_goals rfl
                                                                    | true =>
                                                                      try dsimp only [cond_false, cond_true]
                                                                      all_goals rfl
                                                | inr y_2899 =>
                                                  try dsimp only [cond_false, cond_true]
                                                  all_goals rfl
                            | inr y_2900 =>
                              try dsimp only [cond_false, cond_true]
                              all_goals rfl
                | true =>
                  try dsimp only [cond_false, cond_true]
                  all_goals rfl
        | inr y_2901 =>
          try dsimp only [cond_false, cond_true]
          all_goals rfl
noncomputable def st3g (scl : Option SL) (i : Instr) (n a b : Nat) (k : KK) (st : List AV) (lv : AL) (A : AH) (pr : List PD) (nx : Nat) (tab : Tb) (fs : List Ln) (ca cb : Nat) : Bool := match g3 scl i a b tab fs A st with
  | some (rest, r) => pushR nx tab fs r (fun nx tab fs v => k n (v :: rest) lv A pr nx tab fs ca cb)
  | none => false
noncomputable def st3l (scl : Option SL) (n a b : Nat) (k : KK) (st : List AV) (lv : AL) (A : AH) (pr : List PD) (nx : Nat) (tab : Tb) (fs : List Ln) (ca cb : Nat) : Bool := match scl with
  | none => (match prLd tab fs A pr st with
    | some (rest, r) => pushR nx tab fs r (fun nx tab fs v => k n (v :: rest) lv A pr nx tab fs ca cb)
    | none => st3g none .iaload n a b k st lv A pr nx tab fs ca cb)
  | some s => st3g (some s) .iaload n a b k st lv A pr nx tab fs ca cb
noncomputable def st3 (scl : Option SL) (i : Instr) (n a b : Nat) (k : KK) (st : List AV) (lv : AL) (A : AH) (pr : List PD) (nx : Nat) (tab : Tb) (fs : List Ln) (ca cb : Nat) : Bool := match i with
  | .aaload => aaL (fun st tab fs => k n st lv A pr nx tab fs ca cb) tab fs A st
  | .iaload => st3l scl n a b k st lv A pr nx tab fs ca cb
  | i => st3g scl i n a b k st lv A pr nx tab fs ca cb
noncomputable def st4 (ini : Bool) (o : Nat) (i : Instr) (n a b : Nat) (k : KK) (st : List AV) (lv : AL) (A : AH) (pr : List PD) (nx : Nat) (tab : Tb) (fs : List Ln) (ca cb : Nat) : Bool := match g4 ini o i a b tab fs A pr st with
  | some (rest, A', pr') => k n rest lv A' pr' nx tab fs ca cb
  | none => false
noncomputable def step (scl : Option SL) (ini : Bool) (o nL : Nat) (env : List Ct) (fin : FN) (k : KK) (e : XE) (pc : Nat) (st : List AV) (lv : AL) (A : AH) (pr : List PD) (nx : Nat) (tab : Tb) (fs : List Ln) (ca cb : Nat) : Bool := match e with
  | (i, len, g, a, b, _) => match g with
    | 0 => st0 i (Nat.add pc len) a k st lv A pr nx tab fs ca cb
    | 1 => st1 i (Nat.add pc len) nL k st lv A pr nx tab fs ca cb
    | 2 => g2 (fun t st tab fs => k t st lv A pr nx tab fs ca cb) i pc tab fs st
    | 3 => st3 scl i (Nat.add pc len) a b k st lv A pr nx tab fs ca cb
    | 4 => st4 ini o i (Nat.add pc len) a b k st lv A pr nx tab fs ca cb
    | 5 => match g5 i a tab fs A st with
      | some (rest, A', dc, ds) => bif prB A.length pr then k (Nat.add pc len) rest lv A' pr nx tab fs (Nat.add ca dc) (Nat.add cb ds) else false
      | none => false
    | 6 => g6 fin i st A pr tab fs ca cb
    | 7 => g7 env k i a b pc st lv A pr nx tab fs ca cb
    | _ => false
/-- a hint: at a place, the states that together cover this one (the machine's state stays) -/
abbrev HR : Type := AH × List PD × Nat × Tb × List Ln
abbrev HF : Type := Nat → AL → AH → List PD → Nat → Tb → List Ln → Option (List HR)
/-- a macro: many steps of the machine at once -/
abbrev MR : Type := Nat × AL × AH × List PD × Nat × Tb × List Ln
abbrev MC : Type := Nat → List (List (Option XE)) → Nat → List AV → AL → AH → List PD → Nat → Tb → List Ln → Option MR
/-- hints, macros, where points are (a bit a place), where hints and macros are, how many symbols stay the entry's -/
abbrev HN : Type := HF × MC × Nat × Nat × Nat
noncomputable def isPt (m pc : Nat) : Bool :=
  (Nat.beq (Nat.land (Nat.shiftRight m pc) (nat_lit 1)) (nat_lit 1))
theorem isPt_def (m pc : Nat) : isPt m pc = Nat.beq (Nat.land (Nat.shiftRight m pc) 1) 1 := by
  show (Nat.beq (Nat.land (Nat.shiftRight m pc) (nat_lit 1)) (nat_lit 1)) = _
  all_goals rfl
noncomputable def noF : HF := fun _ _ _ _ _ _ _ => none
noncomputable def noM : MC := fun _ _ _ _ _ _ _ _ _ _ => none
noncomputable def noH : HN := (noF, noM, 0, 0, 0)
noncomputable def macAt (scl : Option SL) (mc : MC) (nL : Nat) (tb : List (List (Option XE))) (pc : Nat) (st : List AV) (lv : AL) (A : AH) (pr : List PD) (nx : Nat) (tab : Tb) (fs : List Ln) : Option MR := match scl with
  | none => mc nL tb pc st lv A pr nx tab fs
  | some _ => none
noncomputable def macG_a0 :=
  fun (scl : Option SL) (mc : MC) (nL : Nat) (tb : List (List (Option XE))) (pc : Nat) (st : List AV) (lv : AL) (A : AH) (pr : List PD) (nx : Nat) (tab : Tb) (fs : List Ln) => ((macAt scl mc nL tb pc st lv A pr nx tab fs) : Option MR)
noncomputable def macG (m : Nat) (scl : Option SL) (mc : MC) (nL : Nat) (tb : List (List (Option XE))) (pc : Nat) (st : List AV) (lv : AL) (A : AH) (pr : List PD) (nx : Nat) (tab : Tb) (fs : List Ln) : Option MR :=
  (Bool.rec (motive := fun _ => Option MR) none (macG_a0 scl mc nL tb pc st lv A pr nx tab fs) (isPt m pc))
theorem macG_def (m : Nat) (scl : Option SL) (mc : MC) (nL : Nat) (tb : List (List (Option XE))) (pc : Nat) (st : List AV) (lv : AL) (A : AH) (pr : List PD) (nx : Nat) (tab : Tb) (fs : List Ln) : macG m scl mc nL tb pc st lv A pr nx tab fs = bif isPt m pc then macAt scl mc nL tb pc st lv A pr nx tab fs else none := by
  show (Bool.rec (motive := fun _ => Option MR) none (macAt scl mc nL tb pc st lv A pr nx tab fs) (isPt m pc)) = _
  try simp only [iAddQ_eq, iMulQ_eq, iNegQ_eq, lenQ_eq, nthQ_eq, setQ_eq, appQ_eq, mapQ_eq, allQ_eq, anyQ_eq, dropQ_eq, takeQ_eq, revQ_eq, getDQ_eq, optLQ_eq, brecC]
  all_goals
    cases hq_1 : (isPt m pc) with
    | false =>
      try dsimp only [cond_false, cond_true]
      all_goals rfl
    | true =>
      try dsimp only [cond_false, cond_true]
      all_goals rfl
noncomputable def hinG (m : Nat) (f : HF) (pc : Nat) (lv : AL) (A : AH) (pr : List PD) (nx : Nat) (tab : Tb) (fs : List Ln) : Option (List HR) :=
  (Bool.rec (motive := fun _ => Option (List HR)) none (f pc lv A pr nx tab fs) (isPt m pc))
theorem hinG_def (m : Nat) (f : HF) (pc : Nat) (lv : AL) (A : AH) (pr : List PD) (nx : Nat) (tab : Tb) (fs : List Ln) : hinG m f pc lv A pr nx tab fs = bif isPt m pc then f pc lv A pr nx tab fs else none := by
  show (Bool.rec (motive := fun _ => Option (List HR)) none (f pc lv A pr nx tab fs) (isPt m pc)) = _
  try simp only [iAddQ_eq, iMulQ_eq, iNegQ_eq, lenQ_eq, nthQ_eq, setQ_eq, appQ_eq, mapQ_eq, allQ_eq, anyQ_eq, dropQ_eq, takeQ_eq, revQ_eq, getDQ_eq, optLQ_eq, brecC]
  all_goals
    cases hq_1 : (isPt m pc) with
    | false =>
      try dsimp only [cond_false, cond_true]
      all_goals rfl
    | true =>
      try dsimp only [cond_false, cond_true]
      all_goals rfl
noncomputable def hAll_a0 :=
  fun (ih : Bool) (k : AH → List PD → Nat → Tb → List Ln → Bool) (A_2902 : AH) (pr_2904 : List PD) (nx_2906 : Nat) (tab_2908 : Tb) (fs_2909 : List Ln) => ((Bool.rec (motive := fun _ => Bool) false (ih) (k A_2902 pr_2904 nx_2906 tab_2908 fs_2909)) : Bool)
noncomputable def hAll (k : AH → List PD → Nat → Tb → List Ln → Bool) : List HR → Bool :=
  fun e_0 => List.rec (motive := fun _ => Bool) true (fun h_0 t_0 ih => (Prod.rec (motive := fun _ => Bool) (fun A_2902 x_2903 => (Prod.rec (motive := fun _ => Bool) (fun pr_2904 x_2905 => (Prod.rec (motive := fun _ => Bool) (fun nx_2906 x_2907 => (Prod.rec (motive := fun _ => Bool) (fun tab_2908 fs_2909 => (hAll_a0 ih k A_2902 pr_2904 nx_2906 tab_2908 fs_2909)) x_2907)) x_2905)) x_2903)) h_0)) e_0 
theorem hAll_def (k : AH → List PD → Nat → Tb → List Ln → Bool) (e_0 : List HR) : hAll k e_0 = (match e_0 with
  | [] => true
  | (A, pr, nx, tab, fs) :: r => bif k A pr nx tab fs then hAll k r else false) := by
  cases e_0 with
  | nil =>
    show true = _
    try simp only [iAddQ_eq, iMulQ_eq, iNegQ_eq, lenQ_eq, nthQ_eq, setQ_eq, appQ_eq, mapQ_eq, allQ_eq, anyQ_eq, dropQ_eq, takeQ_eq, revQ_eq, getDQ_eq, optLQ_eq, brecC]
    all_goals rfl
  | cons h_0 t_0 =>
    show (Prod.rec (motive := fun _ => Bool) (fun A_2910 x_2911 => (Prod.rec (motive := fun _ => Bool) (fun pr_2912 x_2913 => (Prod.rec (motive := fun _ => Bool) (fun nx_2914 x_2915 => (Prod.rec (motive := fun _ => Bool) (fun tab_2916 fs_2917 => (Bool.rec (motive := fun _ => Bool) false (hAll k t_0) (k A_2910 pr_2912 nx_2914 tab_2916 fs_2917))) x_2915)) x_2913)) x_2911)) h_0) = _
    try simp only [iAddQ_eq, iMulQ_eq, iNegQ_eq, lenQ_eq, nthQ_eq, setQ_eq, appQ_eq, mapQ_eq, allQ_eq, anyQ_eq, dropQ_eq, takeQ_eq, revQ_eq, getDQ_eq, optLQ_eq, brecC]
    all_goals
      cases h_0 with
      | mk y_2918 y_2919 =>
        try dsimp only [cond_false, cond_true]
        all_goals
          cases y_2919 with
          | mk y_2920 y_2921 =>
            try dsimp only [cond_false, cond_true]
            all_goals
              cases y_2921 with
              | mk y_2922 y_2923 =>
                try dsimp only [cond_false, cond_true]
                all_goals
                  cases y_2923 with
                  | mk y_2924 y_2925 =>
                    try dsimp only [cond_false, cond_true]
                    all_goals
                      cases hq_5 : (k y_2918 y_2920 y_2922 y_2924 y_2925) with
                      | false =>
                        try dsimp only [cond_false, cond_true]
                        all_goals rfl
                      | true =>
                        try dsimp only [cond_false, cond_true]
                        all_goals rfl
noncomputable def go (scl : Option SL) (ini : Bool) (o nL : Nat) (tb : List (List (Option XE))) (env : List Ct) (pts : List PE) (G : List Ln) (rk : Option Ln) (fin : FN) (hn : HN) : Nat → Bool → KK
  | 0, _ => fun _ _ _ _ _ _ _ _ _ _ => false
  | n + 1, first => fun pc st lv A pr nx tab fs ca cb => bif (bif first then false else isPt hn.2.2.1 pc) then anyPt hn.2.2.2.2 G rk pc st lv A pr tab fs ca cb pts else match macG hn.2.2.2.1 scl hn.2.1 nL tb pc st lv A pr nx tab fs with
    | some (pc', lv', A', pr', nx', tab', fs') => go scl ini o nL tb env pts G rk fin hn n false pc' st lv' A' pr' nx' tab' fs' ca cb
    | none => match tbGet tb pc with
      | some e => (match hinG hn.2.2.2.1 hn.1 pc lv A pr nx tab fs with
        | none => step scl ini o nL env fin (go scl ini o nL tb env pts G rk fin hn n false) e pc st lv A pr nx tab fs ca cb
        | some L => hAll (fun A pr nx tab fs => step scl ini o nL env fin (go scl ini o nL tb env pts G rk fin hn n false) e pc st lv A pr nx tab fs ca cb) L)
      | none => false
