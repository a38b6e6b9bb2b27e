/-! ===== the runner: from a place on, until places that are told, or the end ===== -/
noncomputable def negC (c : Jvm.ClassFile.Cond) : Jvm.ClassFile.Cond := match c with
  | .eq => .ne
  | .ne => .eq
  | .lt => .ge
  | .ge => .lt
  | .gt => .le
  | .le => .gt
noncomputable def asm (c : Jvm.ClassFile.Cond) (tab : Tb) (fs : List Ln) (x y : Ln) : Option (Tb × List Ln) := match c with
  | .lt => addLe tab fs (pluL (subL x y) 1)
  | .ge => addLe tab fs (subL y x)
  | .gt => addLe tab fs (pluL (subL y x) 1)
  | .le => addLe tab fs (subL x y)
  | .eq => match addLe tab fs (subL x y) with
    | some (t, f) => addLe t f (subL y x)
    | none => none
  | .ne => bif le0 tab fs (subL x y) then addLe tab fs (pluL (subL x y) 1) else bif le0 tab fs (subL y x) then addLe tab fs (pluL (subL y x) 1) else some (tab, fs)
noncomputable def cndZ (c : Jvm.ClassFile.Cond) (a b : Int) : Prop := match c with
  | .lt => a < b
  | .ge => b ≤ a
  | .gt => b < a
  | .le => a ≤ b
  | .eq => a = b
  | .ne => a ≠ b
theorem asm_ok {ρ : Nat → Int} {tab : Tb} {fs : List Ln} (ht : tOk ρ tab) (hf : fOk ρ fs) {c : Jvm.ClassFile.Cond} {x y : Ln} (h : cndZ c (ev ρ x) (ev ρ y)) : ∃ tab' fs', asm c tab fs x y = some (tab', fs') ∧ tOk ρ tab' ∧ fOk ρ fs' := by
  have sub : ∀ {t : Tb} {f : List Ln} {a b : Ln}, tOk ρ t → fOk ρ f → ev ρ a ≤ ev ρ b → ∃ tab' fs', addLe t f (subL a b) = some (tab', fs') ∧ tOk ρ tab' ∧ fOk ρ fs' := fun ht hf h => addLe_ok ht hf (by rw [ev_sub]; omega)
  have sub1 : ∀ {t : Tb} {f : List Ln} {a b : Ln}, tOk ρ t → fOk ρ f → ev ρ a < ev ρ b → ∃ tab' fs', addLe t f (pluL (subL a b) 1) = some (tab', fs') ∧ tOk ρ tab' ∧ fOk ρ fs' := fun ht hf h => addLe_ok ht hf (by rw [ev_plu, ev_sub]; omega)
  cases c with
  | lt => exact sub1 ht hf h
  | ge => exact sub ht hf h
  | gt => exact sub1 ht hf h
  | le => exact sub ht hf h
  | eq =>
    have h' : ev ρ x = ev ρ y := h
    obtain ⟨t, f, e, h1, h2⟩ := sub (a := x) (b := y) ht hf (by omega)
    unfold asm
    simp only [e]
    exact sub h1 h2 (by omega)
  | ne =>
    have h' : ev ρ x ≠ ev ρ y := h
    unfold asm
    try dsimp only
    cases h1 : le0 tab fs (subL x y) with
    | true =>
      have q := le0_ok ht hf h1
      rw [ev_sub] at q
      exact sub1 ht hf (by omega)
    | false =>
      cases h2 : le0 tab fs (subL y x) with
      | true =>
        have q := le0_ok ht hf h2
        rw [ev_sub] at q
        exact sub1 ht hf (by omega)
      | false => exact ⟨tab, fs, rfl, ht, hf⟩
theorem cnd_iff {c : Jvm.ClassFile.Cond} {x y : Int32} : cnd c x y = true ↔ cndZ c x.toInt y.toInt := by
  cases c <;> simp only [cnd, cndZ, decide_eq_true_eq, Int32.lt_iff_toInt_lt, Int32.le_iff_toInt_le, Int32.toInt_inj, ne_eq]
theorem cndZ_neg {c : Jvm.ClassFile.Cond} {a b : Int} (h : ¬ cndZ c a b) : cndZ (negC c) a b := by
  cases c <;> simp only [cndZ, negC] at h ⊢ <;> omega
theorem cnd_neg {c : Jvm.ClassFile.Cond} {x y : Int32} (h : cnd c x y = false) : cndZ (negC c) x.toInt y.toInt := cndZ_neg fun q => by rw [cnd_iff.mpr q] at h; cases h
theorem cmpZ_cnd {c : Jvm.ClassFile.Cond} {a b : Int} : cndZ c (cmpZ a b).toInt (0 : Int32).toInt ↔ cndZ c a b := by
  have e0 : (0 : Int32).toInt = 0 := rfl
  have e1 : (1 : Int32).toInt = 1 := rfl
  have e2 : (-1 : Int32).toInt = -1 := rfl
  unfold cmpZ
  rw [e0]
  by_cases h1 : b < a
  · rw [if_pos h1, e1]
    cases c <;> simp only [cndZ] <;> omega
  · rw [if_neg h1]
    by_cases h2 : a = b
    · subst h2
      rw [if_pos rfl, e0]
      cases c <;> simp [cndZ]
    · rw [if_neg h2, e2]
      cases c <;> simp only [cndZ] <;> omega
noncomputable def jmpA (pc : Nat) (off : Int) : Option Nat := match Int.add (.ofNat pc) off with
  | .ofNat t => some t
  | .negSucc _ => none
theorem jmpA_ok {pc t : Nat} {off : Int} (h : jmpA pc off = some t) : jmp pc off = some t := by
  unfold jmpA at h
  split at h
  · rename_i t' he
    cases h
    have he' : (pc : Int) + off = (t : Int) := he
    unfold jmp
    rw [he', if_pos (Int.natCast_nonneg t)]
    rfl
  · cases h
-- points, contracts
abbrev PE : Type := Nat × List Nat × Pt × List Ln × Option Ln × Nat × Nat
abbrev Ot : Type := Pt × Nat × Nat
abbrev Ct : Type := Nat × Nat × Pt × List Ot
noncomputable def hasPc (pc : Nat) : List PE → Bool
  | [] => false
  | p :: r => bif Nat.beq pc p.1 then true else hasPc pc r
noncomputable def lvAt (lv : AL) : List Nat → Option (List AV) :=
  fun e_0 => List.rec (motive := fun _ => Option (List AV)) (some []) (fun h_0 t_0 ih => (Option.rec (motive := fun _ => Option (List AV)) none (fun a_2353 => (Option.rec (motive := fun _ => Option (List AV)) none (fun q_2354 => (some (a_2353 :: q_2354))) (ih))) (alGet h_0 lv))) e_0 
theorem lvAt_def (lv : AL) (e_0 : List Nat) : lvAt lv e_0 = (match e_0 with
  | [] => some []
  | k :: r => match alGet k lv with
    | some a => (match lvAt lv r with
      | some q => some (a :: q)
      | none => none)
    | none => none) := by
  cases e_0 with
  | nil =>
    show (some []) = _
    try simp only [iAddQ_eq, iMulQ_eq, iNegQ_eq, lenQ_eq, nthQ_eq, setQ_eq, appQ_eq, mapQ_eq, allQ_eq, anyQ_eq, dropQ_eq, takeQ_eq, revQ_eq, getDQ_eq, optLQ_eq, brecC]
    all_goals rfl
  | cons h_0 t_0 =>
    show (Option.rec (motive := fun _ => Option (List AV)) none (fun a_2355 => (Option.rec (motive := fun _ => Option (List AV)) none (fun q_2356 => (some (a_2355 :: q_2356))) (lvAt lv t_0))) (alGet h_0 lv)) = _
    try simp only [iAddQ_eq, iMulQ_eq, iNegQ_eq, lenQ_eq, nthQ_eq, setQ_eq, appQ_eq, mapQ_eq, allQ_eq, anyQ_eq, dropQ_eq, takeQ_eq, revQ_eq, getDQ_eq, optLQ_eq, brecC]
    all_goals
      cases hq_1 : (alGet h_0 lv) with
      | none =>
        try dsimp only [cond_false, cond_true]
        all_goals rfl
      | some y_2357 =>
        try dsimp only [cond_false, cond_true]
        all_goals
          cases hq_2 : (lvAt lv t_0) with
          | none =>
            try dsimp only [cond_false, cond_true]
            all_goals rfl
          | some y_2358 =>
            try dsimp only [cond_false, cond_true]
            all_goals rfl
noncomputable def rkLt_a0 :=
  fun (tab : Tb) (fs : List Ln) (θ : Th) (r_2361 : Ln) (q_2362 : Ln) => ((le0 tab fs (pluL (subL (sbL θ r_2361) q_2362) (.ofNat (nat_lit 1)))) : Bool)
noncomputable def rkLt (tab : Tb) (fs : List Ln) (θ : Th) (rk r : Option Ln) : Bool :=
  (Option.rec (motive := fun _ => Bool) true (fun r_2361 => (Option.rec (motive := fun _ => Bool) true (fun q_2362 => (rkLt_a0 tab fs θ r_2361 q_2362)) rk)) r)
theorem rkLt_def (tab : Tb) (fs : List Ln) (θ : Th) (rk r : Option Ln) : rkLt tab fs θ rk r = (match r with
  | none => true
  | some r => match rk with
    | none => true
    | some q => le0 tab fs (pluL (subL (sbL θ r) q) 1)) := by
  show (Option.rec (motive := fun _ => Bool) true (fun r_2359 => (Option.rec (motive := fun _ => Bool) true (fun q_2360 => (le0 tab fs (pluL (subL (sbL θ r_2359) q_2360) (.ofNat (nat_lit 1))))) rk)) r) = _
  all_goals
    cases r with
    | none =>
      try dsimp only [cond_false, cond_true]
      all_goals rfl
    | some y_2363 =>
      try dsimp only [cond_false, cond_true]
      all_goals
        cases rk with
        | none =>
          try dsimp only [cond_false, cond_true]
          all_goals rfl
        | some y_2364 =>
          try dsimp only [cond_false, cond_true]
          all_goals rfl
noncomputable def uniG  : Un → List Ln → List Ln → Un :=
  fun θ e_0 e_1 => List.rec (motive := fun _ => Un → List Ln → Un) (fun θ e_1 => θ) (fun h_0 t_0 ih θ e_1 => (List.rec (motive := fun _ => Un) θ (fun a_2365 q_2366 _ => (ih (uniL θ h_0 a_2365) q_2366)) e_1)) e_0 θ e_1
theorem uniG_def  (θ : Un) (e_0 : List Ln) (e_1 : List Ln) : uniG  θ e_0 e_1 = (match e_0, e_1 with
  | p :: r, a :: q => uniG (uniL θ p a) r q
  | _, _ => θ) := by
  cases e_0 with
  | nil =>
    show θ = _
    try simp only [iAddQ_eq, iMulQ_eq, iNegQ_eq, lenQ_eq, nthQ_eq, setQ_eq, appQ_eq, mapQ_eq, allQ_eq, anyQ_eq, dropQ_eq, takeQ_eq, revQ_eq, getDQ_eq, optLQ_eq, brecC]
    all_goals rfl
  | cons h_0 t_0 =>
    show (List.rec (motive := fun _ => Un) θ (fun a_2367 q_2368 _ => (uniG (uniL θ h_0 a_2367) t_0 q_2368)) e_1) = _
    try simp only [iAddQ_eq, iMulQ_eq, iNegQ_eq, lenQ_eq, nthQ_eq, setQ_eq, appQ_eq, mapQ_eq, allQ_eq, anyQ_eq, dropQ_eq, takeQ_eq, revQ_eq, getDQ_eq, optLQ_eq, brecC]
    all_goals
      cases e_1 with
      | nil =>
        try dsimp only [cond_false, cond_true]
        all_goals rfl
      | cons y_2369 y_2370 =>
        try dsimp only [cond_false, cond_true]
        all_goals rfl
noncomputable def chkG_a0 :=
  fun (ih : List Ln → Bool) (q_2374 : List Ln) (tab : Tb) (fs : List Ln) (θ : Th) (h_0 : Ln) (a_2373 : Ln) => ((Bool.rec (motive := fun _ => Bool) false (ih q_2374) (eqL tab fs (sbL θ h_0) a_2373)) : Bool)
noncomputable def chkG (tab : Tb) (fs : List Ln) (θ : Th) : List Ln → List Ln → Bool :=
  fun e_0 e_1 => List.rec (motive := fun _ => List Ln → Bool) (fun e_1 => (List.rec (motive := fun _ => Bool) true (fun x_2371 x_2372 _ => false) e_1)) (fun h_0 t_0 ih e_1 => (List.rec (motive := fun _ => Bool) false (fun a_2373 q_2374 _ => (chkG_a0 ih q_2374 tab fs θ h_0 a_2373)) e_1)) e_0 e_1
theorem chkG_def (tab : Tb) (fs : List Ln) (θ : Th) (e_0 : List Ln) (e_1 : List Ln) : chkG tab fs θ e_0 e_1 = (match e_0, e_1 with
  | [], [] => true
  | p :: r, a :: q => bif eqL tab fs (sbL θ p) a then chkG tab fs θ r q else false
  | _, _ => false) := by
  cases e_0 with
  | nil =>
    show (List.rec (motive := fun _ => Bool) true (fun x_2375 x_2376 _ => false) e_1) = _
    try simp only [iAddQ_eq, iMulQ_eq, iNegQ_eq, lenQ_eq, nthQ_eq, setQ_eq, appQ_eq, mapQ_eq, allQ_eq, anyQ_eq, dropQ_eq, takeQ_eq, revQ_eq, getDQ_eq, optLQ_eq, brecC]
    all_goals
      cases e_1 with
      | nil =>
        try dsimp only [cond_false, cond_true]
        all_goals rfl
      | cons y_2377 y_2378 =>
        try dsimp only [cond_false, cond_true]
        all_goals rfl
  | cons h_0 t_0 =>
    show (List.rec (motive := fun _ => Bool) false (fun a_2379 q_2380 _ => (Bool.rec (motive := fun _ => Bool) false (chkG tab fs θ t_0 q_2380) (eqL tab fs (sbL θ h_0) a_2379))) e_1) = _
    try simp only [iAddQ_eq, iMulQ_eq, iNegQ_eq, lenQ_eq, nthQ_eq, setQ_eq, appQ_eq, mapQ_eq, allQ_eq, anyQ_eq, dropQ_eq, takeQ_eq, revQ_eq, getDQ_eq, optLQ_eq, brecC]
    all_goals
      cases e_1 with
      | nil =>
        try dsimp only [cond_false, cond_true]
        all_goals rfl
      | cons y_2381 y_2382 =>
        try dsimp only [cond_false, cond_true]
        all_goals
          cases hq_3 : (eqL tab fs ((sbL θ h_0)) y_2381) with
          | false =>
            try dsimp only [cond_false, cond_true]
            all_goals rfl
          | true =>
            try dsimp only [cond_false, cond_true]
            all_goals rfl
/-- the numbers carried along: the same symbols, or found equal -/
noncomputable def chkGR (n : Nat) (tab : Tb) (fs : List Ln) (θ : Th) (P G : List Ln) : Bool :=
  (Bool.rec (motive := fun _ => Bool) (chkG tab fs θ P G) true (Bool.rec (motive := fun _ => Bool) false (isSy n (nat_lit 0) G) (isSy n (nat_lit 0) P)))
theorem chkGR_def (n : Nat) (tab : Tb) (fs : List Ln) (θ : Th) (P G : List Ln) : chkGR n tab fs θ P G = bif (bif isSy n 0 P then isSy n 0 G else false) then true else chkG tab fs θ P G := by
  show (Bool.rec (motive := fun _ => Bool) (chkG tab fs θ P G) true (Bool.rec (motive := fun _ => Bool) false (isSy n (nat_lit 0) G) (isSy n (nat_lit 0) P))) = _
  try simp only [iAddQ_eq, iMulQ_eq, iNegQ_eq, lenQ_eq, nthQ_eq, setQ_eq, appQ_eq, mapQ_eq, allQ_eq, anyQ_eq, dropQ_eq, takeQ_eq, revQ_eq, getDQ_eq, optLQ_eq, brecC]
  all_goals
    cases hq_1 : ((bif (isSy n 0 P) then (isSy n 0 G) else false)) with
    | false =>
      try dsimp only [cond_false, cond_true]
      all_goals rfl
    | true =>
      try dsimp only [cond_false, cond_true]
      all_goals rfl
noncomputable def onePt_a0 :=
  fun (cb : Nat) (p : PE) (ca : Nat) => ((Bool.rec (motive := fun _ => Bool) false (Nat.ble cb p.2.2.2.2.2.2) (Nat.ble ca p.2.2.2.2.2.1)) : Bool)
noncomputable def onePt_a1 :=
  fun (cb : Nat) (p : PE) (ca : Nat) (tab : Tb) (fs : List Ln) (θ : Th) (rk : Option Ln) => ((Bool.rec (motive := fun _ => Bool) false (onePt_a0 cb p ca) (rkLt tab fs θ rk p.2.2.2.2.1)) : Bool)
noncomputable def onePt_a2 :=
  fun (cb : Nat) (p : PE) (ca : Nat) (tab : Tb) (fs : List Ln) (θ : Th) (rk : Option Ln) (n : Nat) (vs : List AV) (A : AH) (pr : List PD) => ((Bool.rec (motive := fun _ => Bool) false (onePt_a1 cb p ca tab fs θ rk) (instPR n tab fs θ p.2.2.1 vs A pr)) : Bool)
noncomputable def onePt (n : Nat) (G : List Ln) (rk : Option Ln) (A : AH) (pr : List PD) (tab : Tb) (fs : List Ln) (ca cb : Nat) (p : PE) (vs : List AV) (θ : Th) : Bool :=
  (Bool.rec (motive := fun _ => Bool) false (onePt_a2 cb p ca tab fs θ rk n vs A pr) (chkGR n tab fs θ p.2.2.2.1 G))
theorem onePt_def (n : Nat) (G : List Ln) (rk : Option Ln) (A : AH) (pr : List PD) (tab : Tb) (fs : List Ln) (ca cb : Nat) (p : PE) (vs : List AV) (θ : Th) : onePt n G rk A pr tab fs ca cb p vs θ = bif chkGR n tab fs θ p.2.2.2.1 G then (bif instPR n tab fs θ p.2.2.1 vs A pr then (bif rkLt tab fs θ rk p.2.2.2.2.1 then (bif Nat.ble ca p.2.2.2.2.2.1 then Nat.ble cb p.2.2.2.2.2.2 else false) else false) else false) else false := by
  show (Bool.rec (motive := fun _ => Bool) false (Bool.rec (motive := fun _ => Bool) false (Bool.rec (motive := fun _ => Bool) false (Bool.rec (motive := fun _ => Bool) false (Nat.ble cb p.2.2.2.2.2.2) (Nat.ble ca p.2.2.2.2.2.1)) (rkLt tab fs θ rk p.2.2.2.2.1)) (instPR n tab fs θ p.2.2.1 vs A pr)) (chkGR n tab fs θ p.2.2.2.1 G)) = _
  try simp only [iAddQ_eq, iMulQ_eq, iNegQ_eq, lenQ_eq, nthQ_eq, setQ_eq, appQ_eq, mapQ_eq, allQ_eq, anyQ_eq, dropQ_eq, takeQ_eq, revQ_eq, getDQ_eq, optLQ_eq, brecC]
  all_goals
    cases hq_1 : (chkGR n tab fs θ p.2.2.2.1 G) with
    | false =>
      try dsimp only [cond_false, cond_true]
      all_goals rfl
    | true =>
      try dsimp only [cond_false, cond_true]
      all_goals
        cases hq_2 : (instPR n tab fs θ p.2.2.1 vs A pr) with
        | false =>
          try dsimp only [cond_false, cond_true]
          all_goals rfl
        | true =>
          try dsimp only [cond_false, cond_true]
          all_goals
            cases hq_3 : (rkLt tab fs θ rk p.2.2.2.2.1) with
            | false =>
              try dsimp only [cond_false, cond_true]
              all_goals rfl
            | true =>
              try dsimp only [cond_false, cond_true]
              all_goals
                cases hq_4 : (Nat.ble ca p.2.2.2.2.2.1) with
                | false =>
                  try dsimp only [cond_false, cond_true]
                  all_goals rfl
                | true =>
                  try dsimp only [cond_false, cond_true]
                  all_goals rfl
noncomputable def uniGR (n : Nat) (P G : List Ln) : Un :=
  (Bool.rec (motive := fun _ => Un) (unR n) (uniG un0 P G) (Nat.beq n (nat_lit 0)))
theorem uniGR_def (n : Nat) (P G : List Ln) : uniGR n P G = bif Nat.beq n 0 then uniG un0 P G else unR n := by
  show (Bool.rec (motive := fun _ => Un) (unR n) (uniG un0 P G) (Nat.beq n (nat_lit 0))) = _
  try simp only [iAddQ_eq, iMulQ_eq, iNegQ_eq, lenQ_eq, nthQ_eq, setQ_eq, appQ_eq, mapQ_eq, allQ_eq, anyQ_eq, dropQ_eq, takeQ_eq, revQ_eq, getDQ_eq, optLQ_eq, brecC]
  all_goals
    cases hq_1 : (Nat.beq n 0) with
    | false =>
      try dsimp only [cond_false, cond_true]
      all_goals rfl
    | true =>
      try dsimp only [cond_false, cond_true]
      all_goals rfl
/-- a cheap look ahead: constants among the values -/
noncomputable def preVs_a0 :=
  fun (ih : List AV → Bool) (q_2392 : List AV) (c_2387 : Int) (c_2397 : Int) => ((Bool.rec (motive := fun _ => Bool) false (ih q_2392) (eqI c_2387 c_2397)) : Bool)
noncomputable def preVs (tab : Tb) : List AV → List AV → Bool :=
  fun e_0 e_1 => List.rec (motive := fun _ => List AV → Bool) (fun e_1 => true) (fun h_0 t_0 ih e_1 => (Sum.rec (motive := fun _ => Bool) (fun x_2383 => (Prod.rec (motive := fun _ => Bool) (fun x_2385 x_2386 => (Prod.rec (motive := fun _ => Bool) (fun c_2387 x_2388 => (List.rec (motive := fun _ => Bool) (List.rec (motive := fun _ => Bool) true (fun x_2391 q_2392 _ => (Sum.rec (motive := fun _ => Bool) (fun x_2393 => (Prod.rec (motive := fun _ => Bool) (fun x_2395 e_2396 => (Option.rec (motive := fun _ => Bool) (ih q_2392) (fun c_2397 => (preVs_a0 ih q_2392 c_2387 c_2397)) (cst tab e_2396))) x_2393)) (fun x_2394 => (ih q_2392)) x_2391)) e_1) (fun x_2389 x_2390 _ => (List.rec (motive := fun _ => Bool) true (fun x_2398 q_2399 _ => (ih q_2399)) e_1)) x_2388)) x_2386)) x_2383)) (fun x_2384 => (List.rec (motive := fun _ => Bool) true (fun x_2400 q_2401 _ => (ih q_2401)) e_1)) h_0)) e_0 e_1
theorem preVs_def (tab : Tb) (e_0 : List AV) (e_1 : List AV) : preVs tab e_0 e_1 = (match e_0, e_1 with
  | .inl (_, (c, [])) :: r, .inl (_, e) :: q => (match cst tab e with
    | some c' => bif eqI c c' then preVs tab r q else false
    | none => preVs tab r q)
  | _ :: r, _ :: q => preVs tab r q
  | _, _ => true) := by
  cases e_0 with
  | nil =>
    show true = _
    try simp only [iAddQ_eq, iMulQ_eq, iNegQ_eq, lenQ_eq, nthQ_eq, setQ_eq, appQ_eq, mapQ_eq, allQ_eq, anyQ_eq, dropQ_eq, takeQ_eq, revQ_eq, getDQ_eq, optLQ_eq, brecC]
    all_goals rfl
  | cons h_0 t_0 =>
    show (Sum.rec (motive := fun _ => Bool) (fun x_2402 => (Prod.rec (motive := fun _ => Bool) (fun x_2404 x_2405 => (Prod.rec (motive := fun _ => Bool) (fun c_2406 x_2407 => (List.rec (motive := fun _ => Bool) (List.rec (motive := fun _ => Bool) true (fun x_2410 q_2411 _ => (Sum.rec (motive := fun _ => Bool) (fun x_2412 => (Prod.rec (motive := fun _ => Bool) (fun x_2414 e_2415 => (Option.rec (motive := fun _ => Bool) (preVs tab t_0 q_2411) (fun c_2416 => (Bool.rec (motive := fun _ => Bool) false (preVs tab t_0 q_2411) (eqI c_2406 c_2416))) (cst tab e_2415))) x_2412)) (fun x_2413 => (preVs tab t_0 q_2411)) x_2410)) e_1) (fun x_2408 x_2409 _ => (List.rec (motive := fun _ => Bool) true (fun x_2417 q_2418 _ => (preVs tab t_0 q_2418)) e_1)) x_2407)) x_2405)) x_2402)) (fun x_2403 => (List.rec (motive := fun _ => Bool) true (fun x_2419 q_2420 _ => (preVs tab t_0 q_2420)) e_1)) h_0) = _
    try simp only [iAddQ_eq, iMulQ_eq, iNegQ_eq, lenQ_eq, nthQ_eq, setQ_eq, appQ_eq, mapQ_eq, allQ_eq, anyQ_eq, dropQ_eq, takeQ_eq, revQ_eq, getDQ_eq, optLQ_eq, brecC]
    all_goals
      cases h_0 with
      | inl y_2421 =>
        try dsimp only [cond_false, cond_true]
        all_goals
          cases y_2421 with
          | mk y_2422 y_2423 =>
            try dsimp only [cond_false, cond_true]
            all_goals
              cases y_2423 with
              | mk y_2424 y_2425 =>
                try dsimp only [cond_false, cond_true]
                all_goals
                  cases y_2425 with
                  | nil =>
                    try dsimp only [cond_false, cond_true]
                    all_goals
                      cases e_1 with
                      | nil =>
                        try dsimp only [cond_false, cond_true]
                        all_goals rfl
                      | cons y_2426 y_2427 =>
                        try dsimp only [cond_false, cond_true]
                        all_goals
                          cases y_2426 with
                          | inl y_2428 =>
                            try dsimp only [cond_false, cond_true]
                            all_goals
                              cases y_2428 with
                              | mk y_2429 y_2430 =>
                                try dsimp only [cond_false, cond_true]
                                all_goals
                                  cases hq_8 : (cst tab y_2430) with
                                  | none =>
                                    try dsimp only [cond_false, cond_true]
                                    all_goals rfl
                                  | some y_2431 =>
                                    try dsimp only [cond_false, cond_true]
                                    all_goals
                                      cases hq_9 : (eqI y_2424 y_2431) with
                                      | false =>
                                        try dsimp only [cond_false, cond_true]
                                        all_goals rfl
                                      | true =>
                                        try dsimp only [cond_false, cond_true]
                                        all_goals rfl
                          | inr y_2432 =>
                            try dsimp only [cond_false, cond_true]
                            all_goals rfl
                  | cons y_2433 y_2434 =>
                    try dsimp only [cond_false, cond_true]
                    all_goals
                      cases e_1 with
                      | nil =>
                        try dsimp only [cond_false, cond_true]
                        all_goals rfl
                      | cons y_2435 y_2436 =>
                        try dsimp only [cond_false, cond_true]
                        all_goals rfl
      | inr y_2437 =>
        try dsimp only [cond_false, cond_true]
        all_goals
          cases e_1 with
          | nil =>
            try dsimp only [cond_false, cond_true]
            all_goals rfl
          | cons y_2438 y_2439 =>
            try dsimp only [cond_false, cond_true]
            all_goals rfl
/-- another cheap look: as many cells, and the constants of the first one -/
noncomputable def lookC (tab : Tb) (P A : AH) : Bool :=
  (List.rec (motive := fun _ => Bool) true (fun x_2452 x_2453 _ => (Sum.rec (motive := fun _ => Bool) (fun x_2454 => (Prod.rec (motive := fun _ => Bool) (fun x_2456 p_2457 => (List.rec (motive := fun _ => Bool) true (fun x_2458 x_2459 _ => (Sum.rec (motive := fun _ => Bool) (fun x_2460 => (Prod.rec (motive := fun _ => Bool) (fun x_2462 a_2463 => (preVs tab p_2457 a_2463)) x_2460)) (fun x_2461 => true) x_2458)) A)) x_2454)) (fun x_2455 => true) x_2452)) P)
theorem lookC_def (tab : Tb) (P A : AH) : lookC tab P A = (match P, A with
  | .inl (_, p) :: _, .inl (_, a) :: _ => preVs tab p a
  | _, _ => true) := by
  show (List.rec (motive := fun _ => Bool) true (fun x_2440 x_2441 _ => (Sum.rec (motive := fun _ => Bool) (fun x_2442 => (Prod.rec (motive := fun _ => Bool) (fun x_2444 p_2445 => (List.rec (motive := fun _ => Bool) true (fun x_2446 x_2447 _ => (Sum.rec (motive := fun _ => Bool) (fun x_2448 => (Prod.rec (motive := fun _ => Bool) (fun x_2450 a_2451 => (preVs tab p_2445 a_2451)) x_2448)) (fun x_2449 => true) x_2446)) A)) x_2442)) (fun x_2443 => true) x_2440)) P) = _
  all_goals
    cases P with
    | nil =>
      try dsimp only [cond_false, cond_true]
      all_goals rfl
    | cons y_2464 y_2465 =>
      try dsimp only [cond_false, cond_true]
      all_goals
        cases y_2464 with
        | inl y_2466 =>
          try dsimp only [cond_false, cond_true]
          all_goals
            cases y_2466 with
            | mk y_2467 y_2468 =>
              try dsimp only [cond_false, cond_true]
              all_goals
                cases A with
                | nil =>
                  try dsimp only [cond_false, cond_true]
                  all_goals rfl
                | cons y_2469 y_2470 =>
                  try dsimp only [cond_false, cond_true]
                  all_goals
                    cases y_2469 with
                    | inl y_2471 =>
                      try dsimp only [cond_false, cond_true]
                      all_goals
                        cases y_2471 with
                        | mk y_2472 y_2473 =>
                          try dsimp only [cond_false, cond_true]
                          all_goals rfl
                    | inr y_2474 =>
                      try dsimp only [cond_false, cond_true]
                      all_goals rfl
        | inr y_2475 =>
          try dsimp only [cond_false, cond_true]
          all_goals rfl
noncomputable def atPt_a0 :=
  fun (n : Nat) (tab : Tb) (fs : List Ln) (pr : List PD) (p : PE) (G : List Ln) (st : List AV) (q_2477 : (List AV)) (A : AH) (rk : Option Ln) (ca : Nat) (cb : Nat) => ((withR n (uniP tab fs pr (uniHR n (uniVs (uniGR n p.2.2.2.1 G) p.2.2.1.2.2.2.1 (appQ st q_2477)) p.2.2.1.2.2.2.2.1 A) p.2.2.1.2.2.2.2.2) (onePt n G rk A pr tab fs ca cb p (appQ st q_2477))) : Bool)
noncomputable def atPt_a1 :=
  fun (n : Nat) (tab : Tb) (fs : List Ln) (pr : List PD) (p : PE) (G : List Ln) (st : List AV) (q_2477 : (List AV)) (A : AH) (rk : Option Ln) (ca : Nat) (cb : Nat) => ((Bool.rec (motive := fun _ => Bool) false (atPt_a0 n tab fs pr p G st q_2477 A rk ca cb) (Nat.beq (lenQ p.2.2.1.2.2.2.2.1) (lenQ A))) : Bool)
noncomputable def atPt_a2 :=
  fun (n : Nat) (tab : Tb) (fs : List Ln) (pr : List PD) (p : PE) (G : List Ln) (st : List AV) (q_2477 : (List AV)) (A : AH) (rk : Option Ln) (ca : Nat) (cb : Nat) => ((Bool.rec (motive := fun _ => Bool) false (atPt_a1 n tab fs pr p G st q_2477 A rk ca cb) (lookC tab p.2.2.1.2.2.2.2.1 A)) : Bool)
noncomputable def atPt_a3 :=
  fun (n : Nat) (tab : Tb) (fs : List Ln) (pr : List PD) (p : PE) (G : List Ln) (st : List AV) (q_2477 : (List AV)) (A : AH) (rk : Option Ln) (ca : Nat) (cb : Nat) => ((Bool.rec (motive := fun _ => Bool) false (atPt_a2 n tab fs pr p G st q_2477 A rk ca cb) (preVs tab p.2.2.1.2.2.2.1 (appQ st q_2477))) : Bool)
noncomputable def atPt_a4 :=
  fun (n : Nat) (tab : Tb) (fs : List Ln) (pr : List PD) (p : PE) (G : List Ln) (st : List AV) (q_2477 : (List AV)) (A : AH) (rk : Option Ln) (ca : Nat) (cb : Nat) => ((Bool.rec (motive := fun _ => Bool) false (atPt_a3 n tab fs pr p G st q_2477 A rk ca cb) (Nat.beq (Nat.add (lenQ st) (lenQ p.2.1)) (lenQ p.2.2.1.2.2.2.1))) : Bool)
noncomputable def atPt (n : Nat) (G : List Ln) (rk : Option Ln) (pc : Nat) (st : List AV) (lv : AL) (A : AH) (pr : List PD) (tab : Tb) (fs : List Ln) (ca cb : Nat) (p : PE) : Bool :=
  (Bool.rec (motive := fun _ => Bool) false (Option.rec (motive := fun _ => Bool) false (fun q_2477 => (atPt_a4 n tab fs pr p G st q_2477 A rk ca cb)) (lvAt lv p.2.1)) (Nat.beq pc p.1))
theorem atPt_def (n : Nat) (G : List Ln) (rk : Option Ln) (pc : Nat) (st : List AV) (lv : AL) (A : AH) (pr : List PD) (tab : Tb) (fs : List Ln) (ca cb : Nat) (p : PE) : atPt n G rk pc st lv A pr tab fs ca cb p = (bif Nat.beq pc p.1 then (match lvAt lv p.2.1 with
  | some q => (bif Nat.beq (Nat.add st.length p.2.1.length) p.2.2.1.2.2.2.1.length then (bif preVs tab p.2.2.1.2.2.2.1 (st ++ q) then (bif lookC tab p.2.2.1.2.2.2.2.1 A then (bif Nat.beq p.2.2.1.2.2.2.2.1.length A.length then withR n (uniP tab fs pr (uniHR n (uniVs (uniGR n p.2.2.2.1 G) p.2.2.1.2.2.2.1 (st ++ q)) p.2.2.1.2.2.2.2.1 A) p.2.2.1.2.2.2.2.2) (onePt n G rk A pr tab fs ca cb p (st ++ q)) else false) else false) else false) else false)
  | none => false) else false) := by
  show (Bool.rec (motive := fun _ => Bool) false (Option.rec (motive := fun _ => Bool) false (fun q_2476 => (Bool.rec (motive := fun _ => Bool) false (Bool.rec (motive := fun _ => Bool) false (Bool.rec (motive := fun _ => Bool) false (Bool.rec (motive := fun _ => Bool) false (withR n (uniP tab fs pr (uniHR n (uniVs (uniGR n p.2.2.2.1 G) p.2.2.1.2.2.2.1 (appQ st q_2476)) p.2.2.1.2.2.2.2.1 A) p.2.2.1.2.2.2.2.2) (onePt n G rk A pr tab fs ca cb p (appQ st q_2476))) (Nat.beq (lenQ p.2.2.1.2.2.2.2.1) (lenQ A))) (lookC tab p.2.2.1.2.2.2.2.1 A)) (preVs tab p.2.2.1.2.2.2.1 (appQ st q_2476))) (Nat.beq (Nat.add (lenQ st) (lenQ p.2.1)) (lenQ p.2.2.1.2.2.2.1)))) (lvAt lv p.2.1)) (Nat.beq pc p.1)) = _
  try simp only [iAddQ_eq, iMulQ_eq, iNegQ_eq, lenQ_eq, nthQ_eq, setQ_eq, appQ_eq, mapQ_eq, allQ_eq, anyQ_eq, dropQ_eq, takeQ_eq, revQ_eq, getDQ_eq, optLQ_eq, brecC]
  all_goals
    cases hq_1 : (Nat.beq pc p.1) with
    | false =>
      try dsimp only [cond_false, cond_true]
      all_goals rfl
    | true =>
      try dsimp only [cond_false, cond_true]
      all_goals
        cases hq_2 : (lvAt lv p.2.1) with
        | none =>
          try dsimp only [cond_false, cond_true]
          all_goals rfl
        | some y_2478 =>
          try dsimp only [cond_false, cond_true]
          all_goals
            cases hq_3 : (Nat.beq ((Nat.add st.length p.2.1.length)) p.2.2.1.2.2.2.1.length) with
            | false =>
              try dsimp only [cond_false, cond_true]
              all_goals rfl
            | true =>
              try dsimp only [cond_false, cond_true]
              all_goals
                cases hq_4 : (preVs tab p.2.2.1.2.2.2.1 ((st ++ y_2478))) with
                | false =>
                  try dsimp only [cond_false, cond_true]
                  all_goals rfl
                | true =>
                  try dsimp only [cond_false, cond_true]
                  all_goals
                    cases hq_5 : (lookC tab p.2.2.1.2.2.2.2.1 A) with
                    | false =>
                      try dsimp only [cond_false, cond_true]
                      all_goals rfl
                    | true =>
                      try dsimp only [cond_false, cond_true]
                      all_goals
                        cases hq_6 : (Nat.beq p.2.2.1.2.2.2.2.1.length A.length) with
                        | false =>
                          try dsimp only [cond_false, cond_true]
                          all_goals rfl
                        | true =>
                          try dsimp only [cond_false, cond_true]
                          all_goals rfl
noncomputable def anyPt_a0 :=
  fun (ih : Bool) (n : Nat) (G : List Ln) (rk : Option Ln) (pc : Nat) (st : List AV) (lv : AL) (A : AH) (pr : List PD) (tab : Tb) (fs : List Ln) (ca : Nat) (cb : Nat) (h_0 : PE) => ((Bool.rec (motive := fun _ => Bool) (ih) true (atPt n G rk pc st lv A pr tab fs ca cb h_0)) : Bool)
noncomputable def anyPt (n : Nat) (G : List Ln) (rk : Option Ln) (pc : Nat) (st : List AV) (lv : AL) (A : AH) (pr : List PD) (tab : Tb) (fs : List Ln) (ca cb : Nat) : List PE → Bool :=
  fun e_0 => List.rec (motive := fun _ => Bool) false (fun h_0 t_0 ih => (anyPt_a0 ih n G rk pc st lv A pr tab fs ca cb h_0)) e_0 
theorem anyPt_def (n : Nat) (G : List Ln) (rk : Option Ln) (pc : Nat) (st : List AV) (lv : AL) (A : AH) (pr : List PD) (tab : Tb) (fs : List Ln) (ca cb : Nat) (e_0 : List PE) : anyPt n G rk pc st lv A pr tab fs ca cb e_0 = (match e_0 with
  | [] => false
  | p :: r => bif atPt n G rk pc st lv A pr tab fs ca cb p then true else anyPt n G rk pc st lv A pr tab fs ca cb r) := by
  cases e_0 with
  | nil =>
    show false = _
    try simp only [iAddQ_eq, iMulQ_eq, iNegQ_eq, lenQ_eq, nthQ_eq, setQ_eq, appQ_eq, mapQ_eq, allQ_eq, anyQ_eq, dropQ_eq, takeQ_eq, revQ_eq, getDQ_eq, optLQ_eq, brecC]
    all_goals rfl
  | cons h_0 t_0 =>
    show (Bool.rec (motive := fun _ => Bool) (anyPt n G rk pc st lv A pr tab fs ca cb t_0) true (atPt n G rk pc st lv A pr tab fs ca cb h_0)) = _
    try simp only [iAddQ_eq, iMulQ_eq, iNegQ_eq, lenQ_eq, nthQ_eq, setQ_eq, appQ_eq, mapQ_eq, allQ_eq, anyQ_eq, dropQ_eq, takeQ_eq, revQ_eq, getDQ_eq, optLQ_eq, brecC]
    all_goals
      cases hq_1 : (atPt n G rk pc st lv A pr tab fs ca cb h_0) with
      | false =>
        try dsimp only [cond_false, cond_true]
        all_goals rfl
      | true =>
        try dsimp only [cond_false, cond_true]
        all_goals rfl
abbrev KK : Type := Nat → List AV → AL → AH → List PD → Nat → Tb → List Ln → Nat → Nat → Bool
noncomputable def pushF (nx : Nat) (fs : List Ln) (f : Option Ln) : List Ln :=
  (Option.rec (motive := fun _ => List Ln) fs (fun e_2480 => ((subL (sL nx) e_2480) :: fs)) f)
theorem pushF_def (nx : Nat) (fs : List Ln) (f : Option Ln) : pushF nx fs f = (match f with
  | some e => subL (sL nx) e :: fs
  | none => fs) := by
  show (Option.rec (motive := fun _ => List Ln) fs (fun e_2479 => ((subL (sL nx) e_2479) :: fs)) f) = _
  all_goals
    cases f with
    | none =>
      try dsimp only [cond_false, cond_true]
      all_goals rfl
    | some y_2481 =>
      try dsimp only [cond_false, cond_true]
      all_goals rfl
noncomputable def pushR_a0 :=
  fun (k : Nat → Tb → List Ln → AV → Bool) (nx : Nat) (tab : Tb) (fs : List Ln) (lg_2494 : Bool) (e_2496 : Ln) => ((k nx tab fs (.inl (lg_2494, e_2496))) : Bool)
noncomputable def pushR_a1 :=
  fun (k : Nat → Tb → List Ln → AV → Bool) (nx : Nat) (lo_2498 : Int) (hi_2500 : Int) (tab : Tb) (fs : List Ln) (f_2501 : Option Ln) (lg_2494 : Bool) => ((k (Nat.succ nx) (tbIns nx lo_2498 hi_2500 tab) (pushF nx fs f_2501) (.inl (lg_2494, (sL nx)))) : Bool)
noncomputable def pushR_a2 :=
  fun (k : Nat → Tb → List Ln → AV → Bool) (nx : Nat) (tab : Tb) (fs : List Ln) (lg_2494 : Bool) (lo_2498 : Int) => ((k nx tab fs (.inl (lg_2494, (kL lo_2498)))) : Bool)
noncomputable def pushR_a3 :=
  fun (k : Nat → Tb → List Ln → AV → Bool) (nx : Nat) (lo_2498 : Int) (hi_2500 : Int) (tab : Tb) (fs : List Ln) (f_2501 : Option Ln) (lg_2494 : Bool) => ((Bool.rec (motive := fun _ => Bool) (pushR_a1 k nx lo_2498 hi_2500 tab fs f_2501 lg_2494) (pushR_a2 k nx tab fs lg_2494 lo_2498) (eqI lo_2498 hi_2500)) : Bool)
noncomputable def pushR (nx : Nat) (tab : Tb) (fs : List Ln) (r : RV) (k : Nat → Tb → List Ln → AV → Bool) : Bool :=
  (Sum.rec (motive := fun _ => Bool) (fun v_2492 => (k nx tab fs v_2492)) (fun x_2493 => (Prod.rec (motive := fun _ => Bool) (fun lg_2494 x_2495 => (Sum.rec (motive := fun _ => Bool) (fun e_2496 => (pushR_a0 k nx tab fs lg_2494 e_2496)) (fun x_2497 => (Prod.rec (motive := fun _ => Bool) (fun lo_2498 x_2499 => (Prod.rec (motive := fun _ => Bool) (fun hi_2500 f_2501 => (pushR_a3 k nx lo_2498 hi_2500 tab fs f_2501 lg_2494)) x_2499)) x_2497)) x_2495)) x_2493)) r)
theorem pushR_def (nx : Nat) (tab : Tb) (fs : List Ln) (r : RV) (k : Nat → Tb → List Ln → AV → Bool) : pushR nx tab fs r k = (match r with
  | .inl v => k nx tab fs v
  | .inr (lg, .inl e) => k nx tab fs (.inl (lg, e))
  | .inr (lg, .inr (lo, hi, f)) => bif eqI lo hi then k nx tab fs (.inl (lg, kL lo)) else k (Nat.succ nx) (tbIns nx lo hi tab) (pushF nx fs f) (.inl (lg, sL nx))) := by
  show (Sum.rec (motive := fun _ => Bool) (fun v_2482 => (k nx tab fs v_2482)) (fun x_2483 => (Prod.rec (motive := fun _ => Bool) (fun lg_2484 x_2485 => (Sum.rec (motive := fun _ => Bool) (fun e_2486 => (k nx tab fs (.inl (lg_2484, e_2486)))) (fun x_2487 => (Prod.rec (motive := fun _ => Bool) (fun lo_2488 x_2489 => (Prod.rec (motive := fun _ => Bool) (fun hi_2490 f_2491 => (Bool.rec (motive := fun _ => Bool) (k (Nat.succ nx) (tbIns nx lo_2488 hi_2490 tab) (pushF nx fs f_2491) (.inl (lg_2484, (sL nx)))) (k nx tab fs (.inl (lg_2484, (kL lo_2488)))) (eqI lo_2488 hi_2490))) x_2489)) x_2487)) x_2485)) x_2483)) r) = _
  try simp only [iAddQ_eq, iMulQ_eq, iNegQ_eq, lenQ_eq, nthQ_eq, setQ_eq, appQ_eq, mapQ_eq, allQ_eq, anyQ_eq, dropQ_eq, takeQ_eq, revQ_eq, getDQ_eq, optLQ_eq, brecC]
  all_goals
    cases r with
    | inl y_2502 =>
      try dsimp only [cond_false, cond_true]
      all_goals rfl
    | inr y_2503 =>
      try dsimp only [cond_false, cond_true]
      all_goals
        cases y_2503 with
        | mk y_2504 y_2505 =>
          try dsimp only [cond_false, cond_true]
          all_goals
            cases y_2505 with
            | inl y_2506 =>
              try dsimp only [cond_false, cond_true]
              all_goals rfl
            | inr y_2507 =>
              try dsimp only [cond_false, cond_true]
              all_goals
                cases y_2507 with
                | mk y_2508 y_2509 =>
                  try dsimp only [cond_false, cond_true]
                  all_goals
                    cases y_2509 with
                    | mk y_2510 y_2511 =>
                      try dsimp only [cond_false, cond_true]
                      all_goals
                        cases hq_6 : (eqI y_2508 y_2510) with
                        | false =>
                          try dsimp only [cond_false, cond_true]
                          all_goals rfl
                        | true =>
                          try dsimp only [cond_false, cond_true]
                          all_goals rfl
noncomputable def onO (r : Option (Tb × List Ln)) (f : Tb → List Ln → Bool) : Bool := match r with
  | some (t, g) => f t g
  | none => true
noncomputable def onJ (r : Option Nat) (f : Nat → Bool) : Bool := match r with
  | some t => f t
  | none => false
noncomputable def br (k : Nat → Tb → List Ln → Bool) (c : Jvm.ClassFile.Cond) (tab : Tb) (fs : List Ln) (x y : Ln) (t e : Nat) : Bool := bif onO (asm c tab fs x y) (k t) then onO (asm (negC c) tab fs x y) (k e) else false
/-- of longs: unlike is below or above -/
noncomputable def brC (k : Nat → Tb → List Ln → Bool) (c : Jvm.ClassFile.Cond) (tab : Tb) (fs : List Ln) (x y : Ln) (t e : Nat) : Bool := match c with
  | .eq => bif onO (asm .eq tab fs x y) (k t) then (bif onO (asm .lt tab fs x y) (k e) then onO (asm .gt tab fs x y) (k e) else false) else false
  | .ne => bif onO (asm .eq tab fs x y) (k e) then (bif onO (asm .lt tab fs x y) (k t) then onO (asm .gt tab fs x y) (k t) else false) else false
  | c => br k c tab fs x y t e
/-- of two that are no constants: unlike is below or above -/
noncomputable def twoS (x y : Ln) : Bool := match x.2, y.2 with
  | _ :: _, _ :: _ => true
  | _, _ => false
noncomputable def br3 (k : Nat → Tb → List Ln → Bool) (c : Jvm.ClassFile.Cond) (tab : Tb) (fs : List Ln) (x y : Ln) (t e : Nat) : Bool := bif twoS x y then brC k c tab fs x y t e else br k c tab fs x y t e
noncomputable def tsAll (k : Nat → Tb → List Ln → Bool) (pc : Nat) (tab : Tb) (fs : List Ln) (x : Ln) : Int → List Int → Bool
  | _, [] => true
  | v, off :: r => bif onO (asm .eq tab fs x (kL v)) (fun tab' fs' => onJ (jmpA pc off) (fun t => k t tab' fs')) then tsAll k pc tab fs x (Int.add v 1) r else false
noncomputable def lsAll (k : Nat → Tb → List Ln → Bool) (pc : Nat) (tab : Tb) (fs : List Ln) (x : Ln) : List (Int × Int) → Bool
  | [] => true
  | (v, off) :: r => bif onO (asm .eq tab fs x (kL v)) (fun tab' fs' => onJ (jmpA pc off) (fun t => k t tab' fs')) then lsAll k pc tab fs x r else false
noncomputable def lsNe (x : Ln) : List (Int × Int) → Tb → List Ln → Option (Tb × List Ln)
  | [], tab, fs => some (tab, fs)
  | (v, _) :: r, tab, fs => match asm .ne tab fs x (kL v) with
    | some (tab', fs') => lsNe x r tab' fs'
    | none => none
noncomputable def g2 (k : Nat → List AV → Tb → List Ln → Bool) (i : Instr) (pc : Nat) (tab : Tb) (fs : List Ln) (st : List AV) : Bool := match i with
  | .goto off => onJ (jmpA pc off) (fun t => k t st tab fs)
  | .ifCond c off => onJ (jmpA pc off) (fun t => match st with
      | .inl (false, x) :: r => br (fun t => k t r) c tab fs x (kL 0) t (Nat.add pc 3)
      | .inr (.inr (p, q)) :: r => brC (fun t => k t r) c tab fs p q t (Nat.add pc 3)
      | _ => false)
  | .if_icmp c off => onJ (jmpA pc off) (fun t => match st with
      | .inl (false, y) :: .inl (false, x) :: r => br3 (fun t => k t r) c tab fs x y t (Nat.add pc 3)
      | _ => false)
  | .ifnull off => match st with
    | .inr (.inl (some _)) :: r => k (Nat.add pc 3) r tab fs
    | .inr (.inl none) :: r => onJ (jmpA pc off) (fun t => k t r tab fs)
    | _ => false
  | .ifnonnull off => match st with
    | .inr (.inl (some _)) :: r => onJ (jmpA pc off) (fun t => k t r tab fs)
    | .inr (.inl none) :: r => k (Nat.add pc 3) r tab fs
    | _ => false
  | .tableswitch d lo hi offs => match st with
    | .inl (false, x) :: r => onJ (jmpA pc d) (fun t => bif leI (Int.add (Int.add hi (Int.neg lo)) 1) (.ofNat offs.toList.length) then (bif onO (asm .lt tab fs x (kL lo)) (k t r) then (bif onO (asm .gt tab fs x (kL hi)) (k t r) then tsAll (fun t => k t r) pc tab fs x lo offs.toList else false) else false) else false)
    | _ => false
  | .lookupswitch d ps => match st with
    | .inl (false, x) :: r => onJ (jmpA pc d) (fun t => bif (ps.toList.zip (ps.toList.drop 1)).all (fun (a, next) => a.1 < next.1) then (bif onO (lsNe x ps.toList tab fs) (k t r) then lsAll (fun t => k t r) pc tab fs x ps.toList else false) else false)
    | _ => false
  | _ => false
noncomputable def loopJ_a0 :=
  fun (ih : Nat → Bool) (e_1 : Nat) (f : Nat → Bool) => ((Bool.rec (motive := fun _ => Bool) false (ih (Nat.succ e_1)) (f e_1)) : Bool)
noncomputable def loopJ (f : Nat → Bool) : Nat → Nat → Bool :=
  fun e_0 e_1 => Nat.rec (motive := fun _ => Nat → Bool) (fun e_1 => true) (fun t_0 ih e_1 => (loopJ_a0 ih e_1 f)) e_0 e_1
theorem loopJ_def (f : Nat → Bool) (e_0 : Nat) (e_1 : Nat) : loopJ f e_0 e_1 = (match e_0, e_1 with
  | 0, _ => true
  | c + 1, j => bif f j then loopJ f c (Nat.succ j) else false) := by
  cases e_0 with
  | zero =>
    show true = _
    try simp only [iAddQ_eq, iMulQ_eq, iNegQ_eq, lenQ_eq, nthQ_eq, setQ_eq, appQ_eq, mapQ_eq, allQ_eq, anyQ_eq, dropQ_eq, takeQ_eq, revQ_eq, getDQ_eq, optLQ_eq, brecC]
    all_goals rfl
  | succ t_0 =>
    show (Bool.rec (motive := fun _ => Bool) false (loopJ f t_0 (Nat.succ e_1)) (f e_1)) = _
    try simp only [iAddQ_eq, iMulQ_eq, iNegQ_eq, lenQ_eq, nthQ_eq, setQ_eq, appQ_eq, mapQ_eq, allQ_eq, anyQ_eq, dropQ_eq, takeQ_eq, revQ_eq, getDQ_eq, optLQ_eq, brecC]
    all_goals
      cases hq_1 : (f e_1) with
      | false =>
        try dsimp only [cond_false, cond_true]
        all_goals rfl
      | true =>
        try dsimp only [cond_false, cond_true]
        all_goals rfl
noncomputable def rfA (o : Option Nat) : AV := .inr (.inl o)
noncomputable def aaL (k : List AV → Tb → List Ln → Bool) (tab : Tb) (fs : List Ln) (A : AH) (st : List AV) : Bool := match st with
  | .inl (false, e) :: .inr (.inl (some q)) :: r => (match A[q]? with
    | some (.inr (kk, .inr (.inr l))) => bif Nat.ble 4 kk then (bif Nat.blt kk 8 then (match idxR tab fs e with
      | some (x, u) => bif Nat.blt u l.length then loopJ (fun j => onO (asm .eq tab fs e (kL (.ofNat j))) (fun tab' fs' => k (rfA (l.getD j none) :: r) tab' fs')) (Nat.succ (Nat.sub u x)) x else false
      | none => false) else false) else false
    | _ => false)
  | _ => false
-- a call
noncomputable def sbV_a0 :=
  fun (θ : Th) (p_2526 : Ln) (q_2527 : Ln) => ((.inr (.inr ((sbL θ p_2526), (sbL θ q_2527)))) : AV)
noncomputable def sbV (θ : Th) (a : AV) : AV :=
  (Sum.rec (motive := fun _ => AV) (fun x_2520 => (Prod.rec (motive := fun _ => AV) (fun b_2522 e_2523 => (.inl (b_2522, (sbL θ e_2523)))) x_2520)) (fun x_2521 => (Sum.rec (motive := fun _ => AV) (fun x_2524 => a) (fun x_2525 => (Prod.rec (motive := fun _ => AV) (fun p_2526 q_2527 => (sbV_a0 θ p_2526 q_2527)) x_2525)) x_2521)) a)
theorem sbV_def (θ : Th) (a : AV) : sbV θ a = (match a with
  | .inl (b, e) => .inl (b, sbL θ e)
  | .inr (.inr (p, q)) => .inr (.inr (sbL θ p, sbL θ q))
  | a => a) := by
  show (Sum.rec (motive := fun _ => AV) (fun x_2512 => (Prod.rec (motive := fun _ => AV) (fun b_2514 e_2515 => (.inl (b_2514, (sbL θ e_2515)))) x_2512)) (fun x_2513 => (Sum.rec (motive := fun _ => AV) (fun x_2516 => a) (fun x_2517 => (Prod.rec (motive := fun _ => AV) (fun p_2518 q_2519 => (.inr (.inr ((sbL θ p_2518), (sbL θ q_2519))))) x_2517)) x_2513)) a) = _
  all_goals
    cases a with
    | inl y_2528 =>
      try dsimp only [cond_false, cond_true]
      all_goals
        cases y_2528 with
        | mk y_2529 y_2530 =>
          try dsimp only [cond_false, cond_true]
          all_goals rfl
    | inr y_2531 =>
      try dsimp only [cond_false, cond_true]
      all_goals
        cases y_2531 with
        | inl y_2532 =>
          try dsimp only [cond_false, cond_true]
          all_goals rfl
        | inr y_2533 =>
          try dsimp only [cond_false, cond_true]
          all_goals
            cases y_2533 with
            | mk y_2534 y_2535 =>
              try dsimp only [cond_false, cond_true]
              all_goals rfl
noncomputable def sbS (θ : Th) (s : Sg) : Sg :=
  (Sum.rec (motive := fun _ => Sg) (fun e_2538 => (.inl (sbL θ e_2538))) (fun x_2539 => s) s)
theorem sbS_def (θ : Th) (s : Sg) : sbS θ s = (match s with
  | .inl e => .inl (sbL θ e)
  | s => s) := by
  show (Sum.rec (motive := fun _ => Sg) (fun e_2536 => (.inl (sbL θ e_2536))) (fun x_2537 => s) s) = _
  all_goals
    cases s with
    | inl y_2540 =>
      try dsimp only [cond_false, cond_true]
      all_goals rfl
    | inr y_2541 =>
      try dsimp only [cond_false, cond_true]
      all_goals rfl
noncomputable def sbC_a0 :=
  fun (ci_2552 : Nat) (θ : Th) (as_2553 : List AV) => ((.inl (ci_2552, (mapQ (sbV θ) as_2553))) : AC)
noncomputable def sbC_a1 :=
  fun (k_2554 : Nat) (θ : Th) (s_2556 : List Sg) => ((.inr (k_2554, (.inl (mapQ (sbS θ) s_2556)))) : AC)
noncomputable def sbC (θ : Th) (c : AC) : AC :=
  (Sum.rec (motive := fun _ => AC) (fun x_2550 => (Prod.rec (motive := fun _ => AC) (fun ci_2552 as_2553 => (sbC_a0 ci_2552 θ as_2553)) x_2550)) (fun x_2551 => (Prod.rec (motive := fun _ => AC) (fun k_2554 x_2555 => (Sum.rec (motive := fun _ => AC) (fun s_2556 => (sbC_a1 k_2554 θ s_2556)) (fun x_2557 => c) x_2555)) x_2551)) c)
theorem sbC_def (θ : Th) (c : AC) : sbC θ c = (match c with
  | .inl (ci, as) => .inl (ci, as.map (sbV θ))
  | .inr (k, .inl s) => .inr (k, .inl (s.map (sbS θ)))
  | c => c) := by
  show (Sum.rec (motive := fun _ => AC) (fun x_2542 => (Prod.rec (motive := fun _ => AC) (fun ci_2544 as_2545 => (.inl (ci_2544, (mapQ (sbV θ) as_2545)))) x_2542)) (fun x_2543 => (Prod.rec (motive := fun _ => AC) (fun k_2546 x_2547 => (Sum.rec (motive := fun _ => AC) (fun s_2548 => (.inr (k_2546, (.inl (mapQ (sbS θ) s_2548))))) (fun x_2549 => c) x_2547)) x_2543)) c) = _
  try simp only [iAddQ_eq, iMulQ_eq, iNegQ_eq, lenQ_eq, nthQ_eq, setQ_eq, appQ_eq, mapQ_eq, allQ_eq, anyQ_eq, dropQ_eq, takeQ_eq, revQ_eq, getDQ_eq, optLQ_eq, brecC]
  all_goals
    cases c with
    | inl y_2558 =>
      try dsimp only [cond_false, cond_true]
      all_goals
        cases y_2558 with
        | mk y_2559 y_2560 =>
          try dsimp only [cond_false, cond_true]
          all_goals rfl
    | inr y_2561 =>
      try dsimp only [cond_false, cond_true]
      all_goals
        cases y_2561 with
        | mk y_2562 y_2563 =>
          try dsimp only [cond_false, cond_true]
          all_goals
            cases y_2563 with
            | inl y_2564 =>
              try dsimp only [cond_false, cond_true]
              all_goals rfl
            | inr y_2565 =>
              try dsimp only [cond_false, cond_true]
              all_goals rfl
/-- the outcome's own symbols become new ones -/
noncomputable def thN (θ : Th) (nx pnx : Nat) (s : Nat) : Ln :=
  (Bool.rec (motive := fun _ => Ln) (sL (Nat.add nx (Nat.sub s pnx))) (θ s) (Nat.blt s pnx))
theorem thN_def (θ : Th) (nx pnx : Nat) (s : Nat) : thN θ nx pnx s = bif Nat.blt s pnx then θ s else sL (Nat.add nx (Nat.sub s pnx)) := by
  show (Bool.rec (motive := fun _ => Ln) (sL (Nat.add nx (Nat.sub s pnx))) (θ s) (Nat.blt s pnx)) = _
  try simp only [iAddQ_eq, iMulQ_eq, iNegQ_eq, lenQ_eq, nthQ_eq, setQ_eq, appQ_eq, mapQ_eq, allQ_eq, anyQ_eq, dropQ_eq, takeQ_eq, revQ_eq, getDQ_eq, optLQ_eq, brecC]
  all_goals
    cases hq_1 : (Nat.blt s pnx) with
    | false =>
      try dsimp only [cond_false, cond_true]
      all_goals rfl
    | true =>
      try dsimp only [cond_false, cond_true]
      all_goals rfl
/-- their bounds, below all that was known -/
noncomputable def tbN (tab : Tb) (nx pnx : Nat) (f : Nat → Option (Int × Int)) : Tb :=
  ([], (fun t => (Bool.rec (motive := fun _ => _) (tbLk t tab) (f (Nat.add pnx (Nat.sub t nx))) (Nat.ble nx t))))
theorem tbN_def (tab : Tb) (nx pnx : Nat) (f : Nat → Option (Int × Int)) : tbN tab nx pnx f = ([], fun t => bif Nat.ble nx t then f (Nat.add pnx (Nat.sub t nx)) else tbLk t tab) := by
  show ([], (fun t => (Bool.rec (motive := fun _ => _) (tbLk t tab) (f (Nat.add pnx (Nat.sub t nx))) (Nat.ble nx t)))) = _
  try simp only [iAddQ_eq, iMulQ_eq, iNegQ_eq, lenQ_eq, nthQ_eq, setQ_eq, appQ_eq, mapQ_eq, allQ_eq, anyQ_eq, dropQ_eq, takeQ_eq, revQ_eq, getDQ_eq, optLQ_eq, brecC]
  all_goals rfl
noncomputable def tbO (tab : Tb) (nx pnx onx : Nat) (l : TbL) : Tb :=
  (Bool.rec (motive := fun _ => Tb) (Prod.rec (motive := fun _ => Tb) (fun x_2570 x_2571 => (Prod.rec (motive := fun _ => Tb) (fun f_2572 x_2573 => (tbN tab nx pnx f_2572)) x_2571)) (balT (nat_lit 9) l)) tab (Nat.beq onx pnx))
theorem tbO_def (tab : Tb) (nx pnx onx : Nat) (l : TbL) : tbO tab nx pnx onx l = (bif Nat.beq onx pnx then tab else match balT 9 l with
  | (_, f, _) => tbN tab nx pnx f) := by
  show (Bool.rec (motive := fun _ => Tb) (Prod.rec (motive := fun _ => Tb) (fun x_2566 x_2567 => (Prod.rec (motive := fun _ => Tb) (fun f_2568 x_2569 => (tbN tab nx pnx f_2568)) x_2567)) (balT (nat_lit 9) l)) tab (Nat.beq onx pnx)) = _
  try simp only [iAddQ_eq, iMulQ_eq, iNegQ_eq, lenQ_eq, nthQ_eq, setQ_eq, appQ_eq, mapQ_eq, allQ_eq, anyQ_eq, dropQ_eq, takeQ_eq, revQ_eq, getDQ_eq, optLQ_eq, brecC]
  all_goals
    cases hq_1 : (Nat.beq onx pnx) with
    | false =>
      try dsimp only [cond_false, cond_true]
      all_goals
        cases hq_2 : (balT 9 l) with
        | mk y_2574 y_2575 =>
          try dsimp only [cond_false, cond_true]
          all_goals
            cases y_2575 with
            | mk y_2576 y_2577 =>
              try dsimp only [cond_false, cond_true]
              all_goals rfl
    | true =>
      try dsimp only [cond_false, cond_true]
      all_goals rfl
noncomputable def isFr (e : Ln) (tab : Tb) : Bool :=
  (List.rec (motive := fun _ => Bool) false (fun x_2585 x_2586 _ => (Prod.rec (motive := fun _ => Bool) (fun t_2587 k_2588 => (List.rec (motive := fun _ => Bool) (Bool.rec (motive := fun _ => Bool) false (Bool.rec (motive := fun _ => Bool) false (Option.rec (motive := fun _ => Bool) true (fun x_2591 => false) (tbLk t_2587 tab)) (eqI k_2588 (.ofNat (nat_lit 1)))) (isZ e.1)) (fun x_2589 x_2590 _ => false) x_2586)) x_2585)) e.2)
theorem isFr_def (e : Ln) (tab : Tb) : isFr e tab = (match e.2 with
  | [(t, k)] => bif isZ e.1 then (bif eqI k 1 then (match tbLk t tab with
    | none => true
    | some _ => false) else false) else false
  | _ => false) := by
  show (List.rec (motive := fun _ => Bool) false (fun x_2578 x_2579 _ => (Prod.rec (motive := fun _ => Bool) (fun t_2580 k_2581 => (List.rec (motive := fun _ => Bool) (Bool.rec (motive := fun _ => Bool) false (Bool.rec (motive := fun _ => Bool) false (Option.rec (motive := fun _ => Bool) true (fun x_2584 => false) (tbLk t_2580 tab)) (eqI k_2581 (.ofNat (nat_lit 1)))) (isZ e.1)) (fun x_2582 x_2583 _ => false) x_2579)) x_2578)) e.2) = _
  try simp only [iAddQ_eq, iMulQ_eq, iNegQ_eq, lenQ_eq, nthQ_eq, setQ_eq, appQ_eq, mapQ_eq, allQ_eq, anyQ_eq, dropQ_eq, takeQ_eq, revQ_eq, getDQ_eq, optLQ_eq, brecC]
  all_goals
    cases hq_1 : e.2 with
    | nil =>
      try dsimp only [cond_false, cond_true]
      all_goals rfl
    | cons y_2592 y_2593 =>
      try dsimp only [cond_false, cond_true]
      all_goals
        cases y_2592 with
        | mk y_2594 y_2595 =>
          try dsimp only [cond_false, cond_true]
          all_goals
            cases y_2593 with
            | nil =>
              try dsimp only [cond_false, cond_true]
              all_goals
                cases hq_4 : (isZ e.1) with
                | false =>
                  try dsimp only [cond_false, cond_true]
                  all_goals rfl
                | true =>
                  try dsimp only [cond_false, cond_true]
                  all_goals
                    cases hq_5 : (eqI y_2595 1) with
                    | false =>
                      try dsimp only [cond_false, cond_true]
                      all_goals rfl
                    | true =>
                      try dsimp only [cond_false, cond_true]
                      all_goals
                        cases hq_6 : (tbLk y_2594 tab) with
                        | none =>
                          try dsimp only [cond_false, cond_true]
                          all_goals rfl
                        | some y_2596 =>
                          try dsimp only [cond_false, cond_true]
                          all_goals rfl
            | cons y_2597 y_2598 =>
              try dsimp only [cond_false, cond_true]
              all_goals rfl
noncomputable def hdS (e : Ln) : Nat :=
  (List.rec (motive := fun _ => Nat) (nat_lit 0) (fun x_2603 x_2604 _ => (Prod.rec (motive := fun _ => Nat) (fun t_2605 x_2606 => t_2605) x_2603)) e.2)
theorem hdS_def (e : Ln) : hdS e = (match e.2 with
  | (t, _) :: _ => t
  | [] => 0) := by
  show (List.rec (motive := fun _ => Nat) (nat_lit 0) (fun x_2599 x_2600 _ => (Prod.rec (motive := fun _ => Nat) (fun t_2601 x_2602 => t_2601) x_2599)) e.2) = _
  all_goals
    cases hq_1 : e.2 with
    | nil =>
      try dsimp only [cond_false, cond_true]
      all_goals rfl
    | cons y_2607 y_2608 =>
      try dsimp only [cond_false, cond_true]
      all_goals
        cases y_2607 with
        | mk y_2609 y_2610 =>
          try dsimp only [cond_false, cond_true]
          all_goals rfl
noncomputable def addB_a0 :=
  fun (tab_2615 : Tb) (fs_2616 : List Ln) (lo : Int) (e : Ln) => ((addLe tab_2615 fs_2616 (subL (kL lo) e)) : Option (Tb × List Ln))
noncomputable def addB_a1 :=
  fun (e : Ln) (lo : Int) (hi : Int) (tab : Tb) (fs : List Ln) => ((some ((tbIns (hdS e) lo hi tab), fs)) : Option (Tb × List Ln))
noncomputable def addB (e : Ln) (lo hi : Int) (tab : Tb) (fs : List Ln) : Option (Tb × List Ln) :=
  (Bool.rec (motive := fun _ => Option (Tb × List Ln)) (Option.rec (motive := fun _ => Option (Tb × List Ln)) none (fun x_2614 => (Prod.rec (motive := fun _ => Option (Tb × List Ln)) (fun tab_2615 fs_2616 => (addB_a0 tab_2615 fs_2616 lo e)) x_2614)) (addLe tab fs (pluL e (iNegQ hi)))) (addB_a1 e lo hi tab fs) (isFr e tab))
theorem addB_def (e : Ln) (lo hi : Int) (tab : Tb) (fs : List Ln) : addB e lo hi tab fs = (bif isFr e tab then some (tbIns (hdS e) lo hi tab, fs) else match addLe tab fs (pluL e (Int.neg hi)) with
  | some (tab', fs') => addLe tab' fs' (subL (kL lo) e)
  | none => none) := by
  show (Bool.rec (motive := fun _ => Option (Tb × List Ln)) (Option.rec (motive := fun _ => Option (Tb × List Ln)) none (fun x_2611 => (Prod.rec (motive := fun _ => Option (Tb × List Ln)) (fun tab_2612 fs_2613 => (addLe tab_2612 fs_2613 (subL (kL lo) e))) x_2611)) (addLe tab fs (pluL e (iNegQ hi)))) (some ((tbIns (hdS e) lo hi tab), fs)) (isFr e tab)) = _
  try simp only [iAddQ_eq, iMulQ_eq, iNegQ_eq, lenQ_eq, nthQ_eq, setQ_eq, appQ_eq, mapQ_eq, allQ_eq, anyQ_eq, dropQ_eq, takeQ_eq, revQ_eq, getDQ_eq, optLQ_eq, brecC]
  all_goals
    cases hq_1 : (isFr e tab) with
    | false =>
      try dsimp only [cond_false, cond_true]
      all_goals
        cases hq_2 : (addLe tab fs ((pluL e ((Int.neg hi))))) with
        | none =>
          try dsimp only [cond_false, cond_true]
          all_goals rfl
        | some y_2617 =>
          try dsimp only [cond_false, cond_true]
          all_goals
            cases y_2617 with
            | mk y_2618 y_2619 =>
              try dsimp only [cond_false, cond_true]
              all_goals rfl
    | true =>
      try dsimp only [cond_false, cond_true]
      all_goals rfl
noncomputable def addT' (θ : Th) (pnx : Nat) : TbL → Tb → List Ln → Option (Tb × List Ln) :=
  fun e_0 e_1 e_2 => List.rec (motive := fun _ => Tb → List Ln → Option (Tb × List Ln)) (fun e_1 e_2 => (some (e_1, e_2))) (fun h_0 t_0 ih e_1 e_2 => (Prod.rec (motive := fun _ => Option (Tb × List Ln)) (fun s_2620 x_2621 => (Prod.rec (motive := fun _ => Option (Tb × List Ln)) (fun lo_2622 hi_2623 => (Bool.rec (motive := fun _ => Option (Tb × List Ln)) (some (e_1, e_2)) (Option.rec (motive := fun _ => Option (Tb × List Ln)) none (fun x_2624 => (Prod.rec (motive := fun _ => Option (Tb × List Ln)) (fun tab_2625 fs_2626 => (ih tab_2625 fs_2626)) x_2624)) (addB (θ s_2620) lo_2622 hi_2623 e_1 e_2)) (Nat.blt s_2620 pnx))) x_2621)) h_0)) e_0 e_1 e_2
theorem addT'_def (θ : Th) (pnx : Nat) (e_0 : TbL) (e_1 : Tb) (e_2 : List Ln) : addT' θ pnx e_0 e_1 e_2 = (match e_0, e_1, e_2 with
  | [], tab, fs => some (tab, fs)
  | (s, lo, hi) :: r, tab, fs => bif Nat.blt s pnx then (match addB (θ s) lo hi tab fs with
    | some (tab', fs') => addT' θ pnx r tab' fs'
    | none => none) else some (tab, fs)) := by
  cases e_0 with
  | nil =>
    show (some (e_1, e_2)) = _
    try simp only [iAddQ_eq, iMulQ_eq, iNegQ_eq, lenQ_eq, nthQ_eq, setQ_eq, appQ_eq, mapQ_eq, allQ_eq, anyQ_eq, dropQ_eq, takeQ_eq, revQ_eq, getDQ_eq, optLQ_eq, brecC]
    all_goals rfl
  | cons h_0 t_0 =>
    show (Prod.rec (motive := fun _ => Option (Tb × List Ln)) (fun s_2627 x_2628 => (Prod.rec (motive := fun _ => Option (Tb × List Ln)) (fun lo_2629 hi_2630 => (Bool.rec (motive := fun _ => Option (Tb × List Ln)) (some (e_1, e_2)) (Option.rec (motive := fun _ => Option (Tb × List Ln)) none (fun x_2631 => (Prod.rec (motive := fun _ => Option (Tb × List Ln)) (fun tab_2632 fs_2633 => (addT' θ pnx t_0 tab_2632 fs_2633)) x_2631)) (addB (θ s_2627) lo_2629 hi_2630 e_1 e_2)) (Nat.blt s_2627 pnx))) x_2628)) h_0) = _
    try simp only [iAddQ_eq, iMulQ_eq, iNegQ_eq, lenQ_eq, nthQ_eq, setQ_eq, appQ_eq, mapQ_eq, allQ_eq, anyQ_eq, dropQ_eq, takeQ_eq, revQ_eq, getDQ_eq, optLQ_eq, brecC]
    all_goals
      cases h_0 with
      | mk y_2634 y_2635 =>
        try dsimp only [cond_false, cond_true]
        all_goals
          cases y_2635 with
          | mk y_2636 y_2637 =>
            try dsimp only [cond_false, cond_true]
            all_goals
              cases hq_3 : (Nat.blt y_2634 pnx) with
              | false =>
                try dsimp only [cond_false, cond_true]
                all_goals rfl
              | true =>
                try dsimp only [cond_false, cond_true]
                all_goals
                  cases hq_4 : (addB ((θ y_2634)) y_2636 y_2637 e_1 e_2) with
                  | none =>
                    try dsimp only [cond_false, cond_true]
                    all_goals rfl
                  | some y_2638 =>
                    try dsimp only [cond_false, cond_true]
                    all_goals
                      cases y_2638 with
                      | mk y_2639 y_2640 =>
                        try dsimp only [cond_false, cond_true]
                        all_goals rfl
noncomputable def addF' (θ : Th) : List Ln → Tb → List Ln → Option (Tb × List Ln) :=
  fun e_0 e_1 e_2 => List.rec (motive := fun _ => Tb → List Ln → Option (Tb × List Ln)) (fun e_1 e_2 => (some (e_1, e_2))) (fun h_0 t_0 ih e_1 e_2 => (Option.rec (motive := fun _ => Option (Tb × List Ln)) none (fun x_2641 => (Prod.rec (motive := fun _ => Option (Tb × List Ln)) (fun tab_2642 fs_2643 => (ih tab_2642 fs_2643)) x_2641)) (addLe e_1 e_2 (sbL θ h_0)))) e_0 e_1 e_2
theorem addF'_def (θ : Th) (e_0 : List Ln) (e_1 : Tb) (e_2 : List Ln) : addF' θ e_0 e_1 e_2 = (match e_0, e_1, e_2 with
  | [], tab, fs => some (tab, fs)
  | f :: r, tab, fs => match addLe tab fs (sbL θ f) with
    | some (tab', fs') => addF' θ r tab' fs'
    | none => none) := by
  cases e_0 with
  | nil =>
    show (some (e_1, e_2)) = _
    try simp only [iAddQ_eq, iMulQ_eq, iNegQ_eq, lenQ_eq, nthQ_eq, setQ_eq, appQ_eq, mapQ_eq, allQ_eq, anyQ_eq, dropQ_eq, takeQ_eq, revQ_eq, getDQ_eq, optLQ_eq, brecC]
    all_goals rfl
  | cons h_0 t_0 =>
    show (Option.rec (motive := fun _ => Option (Tb × List Ln)) none (fun x_2644 => (Prod.rec (motive := fun _ => Option (Tb × List Ln)) (fun tab_2645 fs_2646 => (addF' θ t_0 tab_2645 fs_2646)) x_2644)) (addLe e_1 e_2 (sbL θ h_0))) = _
    try simp only [iAddQ_eq, iMulQ_eq, iNegQ_eq, lenQ_eq, nthQ_eq, setQ_eq, appQ_eq, mapQ_eq, allQ_eq, anyQ_eq, dropQ_eq, takeQ_eq, revQ_eq, getDQ_eq, optLQ_eq, brecC]
    all_goals
      cases hq_1 : (addLe e_1 e_2 ((sbL θ h_0))) with
      | none =>
        try dsimp only [cond_false, cond_true]
        all_goals rfl
      | some y_2647 =>
        try dsimp only [cond_false, cond_true]
        all_goals
          cases y_2647 with
          | mk y_2648 y_2649 =>
            try dsimp only [cond_false, cond_true]
            all_goals rfl
/-- a row that the contract doesn't look into: one number, of its own -/
noncomputable def convC_a0 :=
  fun (kh_2670 : Nat) (y : Nat) => ((.inr ((Nat.add kh_2670 (nat_lit 100)), (.inl [(.inl (sL y))]))) : AC)
noncomputable def convC_a1 :=
  fun (kh_2670 : Nat) (s_2672 : List Sg) (y : Nat) => ((Bool.rec (motive := fun _ => AC) (.inr (kh_2670, (.inl s_2672))) (convC_a0 kh_2670 y) (Nat.blt kh_2670 (nat_lit 100))) : AC)
noncomputable def convC_a2 :=
  fun (kh_2670 : Nat) (s_2672 : List Sg) (y : Nat) (kp_2664 : Nat) => ((Bool.rec (motive := fun _ => AC) (.inr (kh_2670, (.inl s_2672))) (convC_a1 kh_2670 s_2672 y) (Nat.ble (nat_lit 100) kp_2664)) : AC)
noncomputable def convC (y : Nat) (p a : AC) : AC :=
  (Sum.rec (motive := fun _ => AC) (fun x_2662 => a) (fun x_2663 => (Prod.rec (motive := fun _ => AC) (fun kp_2664 x_2665 => (Sum.rec (motive := fun _ => AC) (fun x_2666 => (Sum.rec (motive := fun _ => AC) (fun x_2668 => a) (fun x_2669 => (Prod.rec (motive := fun _ => AC) (fun kh_2670 x_2671 => (Sum.rec (motive := fun _ => AC) (fun s_2672 => (convC_a2 kh_2670 s_2672 y kp_2664)) (fun x_2673 => a) x_2671)) x_2669)) a)) (fun x_2667 => a) x_2665)) x_2663)) p)
theorem convC_def (y : Nat) (p a : AC) : convC y p a = (match p, a with
  | .inr (kp, .inl _), .inr (kh, .inl s) => bif Nat.ble 100 kp then (bif Nat.blt kh 100 then .inr (Nat.add kh 100, .inl [.inl (sL y)]) else .inr (kh, .inl s)) else .inr (kh, .inl s)
  | _, a => a) := by
  show (Sum.rec (motive := fun _ => AC) (fun x_2650 => a) (fun x_2651 => (Prod.rec (motive := fun _ => AC) (fun kp_2652 x_2653 => (Sum.rec (motive := fun _ => AC) (fun x_2654 => (Sum.rec (motive := fun _ => AC) (fun x_2656 => a) (fun x_2657 => (Prod.rec (motive := fun _ => AC) (fun kh_2658 x_2659 => (Sum.rec (motive := fun _ => AC) (fun s_2660 => (Bool.rec (motive := fun _ => AC) (.inr (kh_2658, (.inl s_2660))) (Bool.rec (motive := fun _ => AC) (.inr (kh_2658, (.inl s_2660))) (.inr ((Nat.add kh_2658 (nat_lit 100)), (.inl [(.inl (sL y))]))) (Nat.blt kh_2658 (nat_lit 100))) (Nat.ble (nat_lit 100) kp_2652))) (fun x_2661 => a) x_2659)) x_2657)) a)) (fun x_2655 => a) x_2653)) x_2651)) p) = _
  try simp only [iAddQ_eq, iMulQ_eq, iNegQ_eq, lenQ_eq, nthQ_eq, setQ_eq, appQ_eq, mapQ_eq, allQ_eq, anyQ_eq, dropQ_eq, takeQ_eq, revQ_eq, getDQ_eq, optLQ_eq, brecC]
  all_goals
    cases p with
    | inl y_2674 =>
      try dsimp only [cond_false, cond_true]
      all_goals rfl
    | inr y_2675 =>
      try dsimp only [cond_false, cond_true]
      all_goals
        cases y_2675 with
        | mk y_2676 y_2677 =>
          try dsimp only [cond_false, cond_true]
          all_goals
            cases y_2677 with
            | inl y_2678 =>
              try dsimp only [cond_false, cond_true]
              all_goals
                cases a with
                | inl y_2679 =>
                  try dsimp only [cond_false, cond_true]
                  all_goals rfl
                | inr y_2680 =>
                  try dsimp only [cond_false, cond_true]
                  all_goals
                    cases y_2680 with
                    | mk y_2681 y_2682 =>
                      try dsimp only [cond_false, cond_true]
                      all_goals
                        cases y_2682 with
                        | inl y_2683 =>
                          try dsimp only [cond_false, cond_true]
                          all_goals
                            cases hq_7 : (Nat.ble 100 y_2676) with
                            | false =>
                              try dsimp only [cond_false, cond_true]
                              all_goals rfl
                            | true =>
                              try dsimp only [cond_false, cond_true]
                              all_goals
                                cases hq_8 : (Nat.blt y_2681 100) with
                                | false =>
                                  try dsimp only [cond_false, cond_true]
                                  all_goals rfl
                                | true =>
                                  try dsimp only [cond_false, cond_true]
                                  all_goals rfl
                        | inr y_2684 =>
                          try dsimp only [cond_false, cond_true]
                          all_goals rfl
            | inr y_2685 =>
              try dsimp only [cond_false, cond_true]
              all_goals rfl
noncomputable def convH_a0 :=
  fun (nx : Nat) (e_0 : Nat) (h_0 : AC) (a_2686 : AC) (ih : Nat → AH → AH) (as_2687 : List AC) => (((convC (Nat.add nx e_0) h_0 a_2686) :: (ih (Nat.succ e_0) as_2687)) : AH)
noncomputable def convH (nx : Nat) : Nat → AH → AH → AH :=
  fun e_0 e_1 e_2 => List.rec (motive := fun _ => Nat → AH → AH) (fun e_0 e_2 => e_2) (fun h_0 t_0 ih e_0 e_2 => (List.rec (motive := fun _ => AH) e_2 (fun a_2686 as_2687 _ => (convH_a0 nx e_0 h_0 a_2686 ih as_2687)) e_2)) e_1 e_0 e_2
theorem convH_def (nx : Nat) (e_0 : Nat) (e_1 : AH) (e_2 : AH) : convH nx e_0 e_1 e_2 = (match e_0, e_1, e_2 with
  | i, p :: ps, a :: as => convC (Nat.add nx i) p a :: convH nx (Nat.succ i) ps as
  | _, _, A => A) := by
  cases e_1 with
  | nil =>
    show e_2 = _
    try simp only [iAddQ_eq, iMulQ_eq, iNegQ_eq, lenQ_eq, nthQ_eq, setQ_eq, appQ_eq, mapQ_eq, allQ_eq, anyQ_eq, dropQ_eq, takeQ_eq, revQ_eq, getDQ_eq, optLQ_eq, brecC]
    all_goals rfl
  | cons h_0 t_0 =>
    show (List.rec (motive := fun _ => AH) e_2 (fun a_2688 as_2689 _ => ((convC (Nat.add nx e_0) h_0 a_2688) :: (convH nx (Nat.succ e_0) t_0 as_2689))) e_2) = _
    try simp only [iAddQ_eq, iMulQ_eq, iNegQ_eq, lenQ_eq, nthQ_eq, setQ_eq, appQ_eq, mapQ_eq, allQ_eq, anyQ_eq, dropQ_eq, takeQ_eq, revQ_eq, getDQ_eq, optLQ_eq, brecC]
    all_goals
      cases e_2 with
      | nil =>
        try dsimp only [cond_false, cond_true]
        all_goals rfl
      | cons y_2690 y_2691 =>
        try dsimp only [cond_false, cond_true]
        all_goals rfl
/-- a row that came back as it was, or as another was: what was known of that one -/
noncomputable def resC_a0 :=
  fun (y_2733 : Nat) (nx : Nat) (nI : Nat) => ((Bool.rec (motive := fun _ => Bool) false (Nat.blt (Nat.sub y_2733 nx) nI) (Nat.ble nx y_2733)) : Bool)
noncomputable def resC_a1 :=
  fun (y_2733 : Nat) (nx : Nat) (nI : Nat) (w_2734 : Int) => ((Bool.rec (motive := fun _ => Bool) false (resC_a0 y_2733 nx nI) (eqI w_2734 (.ofNat (nat_lit 1)))) : Bool)
noncomputable def resC_a2 :=
  fun (y_2733 : Nat) (nx : Nat) (nI : Nat) (w_2734 : Int) (z_2729 : Int) => ((Bool.rec (motive := fun _ => Bool) false (resC_a1 y_2733 nx nI w_2734) (isZ z_2729)) : Bool)
noncomputable def resC_a3 :=
  fun kh_2742 (k_2721 : Nat) => ((Nat.beq (Nat.add kh_2742 (nat_lit 100)) k_2721) : Bool)
noncomputable def resC_a4 :=
  fun (c : AC) kh_2742 s_2744 (k_2721 : Nat) => ((Bool.rec (motive := fun _ => AC) c (.inr (kh_2742, (.inl s_2744))) (Bool.rec (motive := fun _ => Bool) false (resC_a3 kh_2742 k_2721) (Nat.blt kh_2742 (nat_lit 100)))) : AC)
noncomputable def resC (nx nI : Nat) (H : AH) (c : AC) : AC :=
  (Sum.rec (motive := fun _ => AC) (fun x_2719 => c) (fun x_2720 => (Prod.rec (motive := fun _ => AC) (fun k_2721 x_2722 => (Sum.rec (motive := fun _ => AC) (fun x_2723 => (List.rec (motive := fun _ => AC) c (fun x_2725 x_2726 _ => (Sum.rec (motive := fun _ => AC) (fun x_2727 => (Prod.rec (motive := fun _ => AC) (fun z_2729 x_2730 => (List.rec (motive := fun _ => AC) c (fun x_2731 x_2732 _ => (Prod.rec (motive := fun _ => AC) (fun y_2733 w_2734 => (List.rec (motive := fun _ => AC) (List.rec (motive := fun _ => AC) (Bool.rec (motive := fun _ => AC) c (Option.rec (motive := fun _ => AC) c (fun x_2739 => (Sum.rec (motive := fun _ => AC) (fun x_2740 => c) (fun x_2741 => (Prod.rec (motive := fun _ => AC) (fun kh_2742 x_2743 => (Sum.rec (motive := fun _ => AC) (fun s_2744 => (resC_a4 c kh_2742 s_2744 k_2721)) (fun x_2745 => c) x_2743)) x_2741)) x_2739)) (nthQ H (Nat.sub y_2733 nx))) (Bool.rec (motive := fun _ => Bool) false (resC_a2 y_2733 nx nI w_2734 z_2729) (Nat.ble (nat_lit 100) k_2721))) (fun x_2737 x_2738 _ => c) x_2726) (fun x_2735 x_2736 _ => c) x_2732)) x_2731)) x_2730)) x_2727)) (fun x_2728 => c) x_2725)) x_2723)) (fun x_2724 => c) x_2722)) x_2720)) c)
theorem resC_def (nx nI : Nat) (H : AH) (c : AC) : resC nx nI H c = (match c with
  | .inr (k, .inl [.inl (z, [(y, w)])]) => bif (bif Nat.ble 100 k then (bif isZ z then (bif eqI w 1 then (bif Nat.ble nx y then Nat.blt (Nat.sub y nx) nI else false) else false) else false) else false) then (match H[Nat.sub y nx]? with
    | some (.inr (kh, .inl s)) => bif (bif Nat.blt kh 100 then Nat.beq (Nat.add kh 100) k else false) then .inr (kh, .inl s) else c
    | _ => c) else c
  | c => c) := by
  show (Sum.rec (motive := fun _ => AC) (fun x_2692 => c) (fun x_2693 => (Prod.rec (motive := fun _ => AC) (fun k_2694 x_2695 => (Sum.rec (motive := fun _ => AC) (fun x_2696 => (List.rec (motive := fun _ => AC) c (fun x_2698 x_2699 _ => (Sum.rec (motive := fun _ => AC) (fun x_2700 => (Prod.rec (motive := fun _ => AC) (fun z_2702 x_2703 => (List.rec (motive := fun _ => AC) c (fun x_2704 x_2705 _ => (Prod.rec (motive := fun _ => AC) (fun y_2706 w_2707 => (List.rec (motive := fun _ => AC) (List.rec (motive := fun _ => AC) (Bool.rec (motive := fun _ => AC) c (Option.rec (motive := fun _ => AC) c (fun x_2712 => (Sum.rec (motive := fun _ => AC) (fun x_2713 => c) (fun x_2714 => (Prod.rec (motive := fun _ => AC) (fun kh_2715 x_2716 => (Sum.rec (motive := fun _ => AC) (fun s_2717 => (Bool.rec (motive := fun _ => AC) c (.inr (kh_2715, (.inl s_2717))) (Bool.rec (motive := fun _ => Bool) false (Nat.beq (Nat.add kh_2715 (nat_lit 100)) k_2694) (Nat.blt kh_2715 (nat_lit 100))))) (fun x_2718 => c) x_2716)) x_2714)) x_2712)) (nthQ H (Nat.sub y_2706 nx))) (Bool.rec (motive := fun _ => Bool) false (Bool.rec (motive := fun _ => Bool) false (Bool.rec (motive := fun _ => Bool) false (Bool.rec (motive := fun _ => Bool) false (Nat.blt (Nat.sub y_2706 nx) nI) (Nat.ble nx y_2706)) (eqI w_2707 (.ofNat (nat_lit 1)))) (isZ z_2702)) (Nat.ble (nat_lit 100) k_2694))) (fun x_2710 x_2711 _ => c) x_2699) (fun x_2708 x_2709 _ => c) x_2705)) x_2704)) x_2703)) x_2700)) (fun x_2701 => c) x_2698)) x_2696)) (fun x_2697 => c) x_2695)) x_2693)) c) = _
  try simp only [iAddQ_eq, iMulQ_eq, iNegQ_eq, lenQ_eq, nthQ_eq, setQ_eq, appQ_eq, mapQ_eq, allQ_eq, anyQ_eq, dropQ_eq, takeQ_eq, revQ_eq, getDQ_eq, optLQ_eq, brecC]
  all_goals
    cases c with
    | inl y_2746 =>
      try dsimp only [cond_false, cond_true]
      all_goals rfl
    | inr y_2747 =>
      try dsimp only [cond_false, cond_true]
      all_goals
        cases y_2747 with
        | mk y_2748 y_2749 =>
          try dsimp only [cond_false, cond_true]
          all_goals
            cases y_2749 with
            | inl y_2750 =>
              try dsimp only [cond_false, cond_true]
              all_goals
                cases y_2750 with
                | nil =>
                  try dsimp only [cond_false, cond_true]
                  all_goals rfl
                | cons y_2751 y_2752 =>
                  try dsimp only [cond_false, cond_true]
                  all_goals
                    cases y_2751 with
                    | inl y_2753 =>
                      try dsimp only [cond_false, cond_true]
                      all_goals
                        cases y_2753 with
                        | mk y_2754 y_2755 =>
                          try dsimp only [cond_false, cond_true]
                          all_goals
                            cases y_2755 with
                            | nil =>
                              try dsimp only [cond_false, cond_true]
                              all_goals rfl
                            | cons y_2756 y_2757 =>
                              try dsimp only [cond_false, cond_true]
                              all_goals
                                cases y_2756 with
                                | mk y_2758 y_2759 =>
                                  try dsimp only [cond_false, cond_true]
                                  all_goals
                                    cases y_2757 with
                                    | nil =>
                                      try dsimp only [cond_false, cond_true]
                                      all_goals
                                        cases y_2752 with
                                        | nil =>
                                          try dsimp only [cond_false, cond_true]
                                          all_goals
                                            cases hq_11 : ((bif (Nat.ble 100 y_2748) then ((bif (isZ y_2754) then ((bif (eqI y_2759 1) then ((bif (Nat.ble nx y_2758) then (Nat.blt ((Nat.sub y_2758 nx)) nI) else false)) else false)) else false)) else false)) with
                                            | false =>
                                              try dsimp only [cond_false, cond_true]
                                              all_goals rfl
                                            | true =>
                                              try dsimp only [cond_false, cond_true]
                                              all_goals
                                                cases hq_12 : H[(Nat.sub y_2758 nx)]? with
                                                | none =>
                                                  try dsimp only [cond_false, cond_true]
                                                  all_goals rfl
                                                | some y_2760 =>
                                                  try dsimp only [cond_false, cond_true]
                                                  all_goals
                                                    cases y_2760 with
                                                    | inl y_2761 =>
                                                      try dsimp only [cond_false, cond_true]
                                                      all_goals rfl
                                                    | inr y_2762 =>
                                                      try dsimp only [cond_false, cond_true]
                                                      all_goals
                                                        cases y_2762 with
                                                        | mk y_2763 y_2764 =>
                                                          try dsimp only [cond_false, cond_true]
                                                          all_goals
                                                            cases y_2764 with
                                                            | inl y_2765 =>
                                                              try dsimp only [cond_false, cond_true]
                                                              all_goals
                                                                cases hq_16 : ((bif (Nat.blt y_2763 100) then (Nat.beq ((Nat.add y_2763 100)) y_2748) else false)) with
                                                                | false =>
                                                                  try dsimp only [cond_false, cond_true]
                                                                  all_goals rfl
                                                                | true =>
                                                                  try dsimp only [cond_false, cond_true]
                                                                  all_goals rfl
                                                            | inr y_2766 =>
                                                              try dsimp only [cond_false, cond_true]
                                                              all_goals rfl
                                        | cons y_2767 y_2768 =>
                                          try dsimp only [cond_false, cond_true]
                                          all_goals rfl
                                    | cons y_2769 y_2770 =>
                                      try dsimp only [cond_false, cond_true]
                                      all_goals rfl
                    | inr y_2771 =>
                      try dsimp only [cond_false, cond_true]
                      all_goals rfl
            | inr y_2772 =>
              try dsimp only [cond_false, cond_true]
              all_goals rfl
/-- the same, the rows found by halves -/
noncomputable def resG_a0 :=
  fun (y_2814 : Nat) (nx : Nat) (nI : Nat) => ((Bool.rec (motive := fun _ => Bool) false (Nat.blt (Nat.sub y_2814 nx) nI) (Nat.ble nx y_2814)) : Bool)
noncomputable def resG_a1 :=
  fun (y_2814 : Nat) (nx : Nat) (nI : Nat) (w_2815 : Int) => ((Bool.rec (motive := fun _ => Bool) false (resG_a0 y_2814 nx nI) (eqI w_2815 (.ofNat (nat_lit 1)))) : Bool)
noncomputable def resG_a2 :=
  fun (y_2814 : Nat) (nx : Nat) (nI : Nat) (w_2815 : Int) (z_2810 : Int) => ((Bool.rec (motive := fun _ => Bool) false (resG_a1 y_2814 nx nI w_2815) (isZ z_2810)) : Bool)
noncomputable def resG_a3 :=
  fun kh_2823 (k_2802 : Nat) => ((Nat.beq (Nat.add kh_2823 (nat_lit 100)) k_2802) : Bool)
noncomputable def resG_a4 :=
  fun (c : AC) kh_2823 s_2825 (k_2802 : Nat) => ((Bool.rec (motive := fun _ => AC) c (.inr (kh_2823, (.inl s_2825))) (Bool.rec (motive := fun _ => Bool) false (resG_a3 kh_2823 k_2802) (Nat.blt kh_2823 (nat_lit 100)))) : AC)
noncomputable def resG (look : Nat → Option AC) (nx nI : Nat) (c : AC) : AC :=
  (Sum.rec (motive := fun _ => AC) (fun x_2800 => c) (fun x_2801 => (Prod.rec (motive := fun _ => AC) (fun k_2802 x_2803 => (Sum.rec (motive := fun _ => AC) (fun x_2804 => (List.rec (motive := fun _ => AC) c (fun x_2806 x_2807 _ => (Sum.rec (motive := fun _ => AC) (fun x_2808 => (Prod.rec (motive := fun _ => AC) (fun z_2810 x_2811 => (List.rec (motive := fun _ => AC) c (fun x_2812 x_2813 _ => (Prod.rec (motive := fun _ => AC) (fun y_2814 w_2815 => (List.rec (motive := fun _ => AC) (List.rec (motive := fun _ => AC) (Bool.rec (motive := fun _ => AC) c (Option.rec (motive := fun _ => AC) c (fun x_2820 => (Sum.rec (motive := fun _ => AC) (fun x_2821 => c) (fun x_2822 => (Prod.rec (motive := fun _ => AC) (fun kh_2823 x_2824 => (Sum.rec (motive := fun _ => AC) (fun s_2825 => (resG_a4 c kh_2823 s_2825 k_2802)) (fun x_2826 => c) x_2824)) x_2822)) x_2820)) (look (Nat.sub y_2814 nx))) (Bool.rec (motive := fun _ => Bool) false (resG_a2 y_2814 nx nI w_2815 z_2810) (Nat.ble (nat_lit 100) k_2802))) (fun x_2818 x_2819 _ => c) x_2807) (fun x_2816 x_2817 _ => c) x_2813)) x_2812)) x_2811)) x_2808)) (fun x_2809 => c) x_2806)) x_2804)) (fun x_2805 => c) x_2803)) x_2801)) c)
theorem resG_def (look : Nat → Option AC) (nx nI : Nat) (c : AC) : resG look nx nI c = (match c with
  | .inr (k, .inl [.inl (z, [(y, w)])]) => bif (bif Nat.ble 100 k then (bif isZ z then (bif eqI w 1 then (bif Nat.ble nx y then Nat.blt (Nat.sub y nx) nI else false) else false) else false) else false) then (match look (Nat.sub y nx) with
    | some (.inr (kh, .inl s)) => bif (bif Nat.blt kh 100 then Nat.beq (Nat.add kh 100) k else false) then .inr (kh, .inl s) else c
    | _ => c) else c
  | c => c) := by
  show (Sum.rec (motive := fun _ => AC) (fun x_2773 => c) (fun x_2774 => (Prod.rec (motive := fun _ => AC) (fun k_2775 x_2776 => (Sum.rec (motive := fun _ => AC) (fun x_2777 => (List.rec (motive := fun _ => AC) c (fun x_2779 x_2780 _ => (Sum.rec (motive := fun _ => AC) (fun x_2781 => (Prod.rec (motive := fun _ => AC) (fun z_2783 x_2784 => (List.rec (motive := fun _ => AC) c (fun x_2785 x_2786 _ => (Prod.rec (motive := fun _ => AC) (fun y_2787 w_2788 => (List.rec (motive := fun _ => AC) (List.rec (motive := fun _ => AC) (Bool.rec (motive := fun _ => AC) c (Option.rec (motive := fun _ => AC) c (fun x_2793 => (Sum.rec (motive := fun _ => AC) (fun x_2794 => c) (fun x_2795 => (Prod.rec (motive := fun _ => AC) (fun kh_2796 x_2797 => (Sum.rec (motive := fun _ => AC) (fun s_2798 => (Bool.rec (motive := fun _ => AC) c (.inr (kh_2796, (.inl s_2798))) (Bool.rec (motive := fun _ => Bool) false (Nat.beq (Nat.add kh_2796 (nat_lit 100)) k_2775) (Nat.blt kh_2796 (nat_lit 100))))) (fun x_2799 => c) x_2797)) x_2795)) x_2793)) (look (Nat.sub y_2787 nx))) (Bool.rec (motive := fun _ => Bool) false (Bool.rec (motive := fun _ => Bool) false (Bool.rec (motive := fun _ => Bool) false (Bool.rec (motive := fun _ => Bool) false (Nat.blt (Nat.sub y_2787 nx) nI) (Nat.ble nx y_2787)) (eqI w_2788 (.ofNat (nat_lit 1)))) (isZ z_2783)) (Nat.ble (nat_lit 100) k_2775))) (fun x_2791 x_2792 _ => c) x_2780) (fun x_2789 x_2790 _ => c) x_2786)) x_2785)) x_2784)) x_2781)) (fun x_2782 => c) x_2779)) x_2777)) (fun x_2778 => c) x_2776)) x_2774)) c) = _
  try simp only [iAddQ_eq, iMulQ_eq, iNegQ_eq, lenQ_eq, nthQ_eq, setQ_eq, appQ_eq, mapQ_eq, allQ_eq, anyQ_eq, dropQ_eq, takeQ_eq, revQ_eq, getDQ_eq, optLQ_eq, brecC]
  all_goals
    cases c with
    | inl y_2827 =>
      try dsimp only [cond_false, cond_true]
      all_goals rfl
    | inr y_2828 =>
      try dsimp only [cond_false, cond_true]
      all_goals
        cases y_2828 with
        | mk y_2829 y_2830 =>
          try dsimp only [cond_false, cond_true]
          all_goals
            cases y_2830 with
            | inl y_2831 =>
              try dsimp only [cond_false, cond_true]
              all_goals
                cases y_2831 with
                | nil =>
                  try dsimp only [cond_false, cond_true]
                  all_goals rfl
                | cons y_2832 y_2833 =>
                  try dsimp only [cond_false, cond_true]
                  all_goals
                    cases y_2832 with
                    | inl y_2834 =>
                      try dsimp only [cond_false, cond_true]
                      all_goals
                        cases y_2834 with
                        | mk y_2835 y_2836 =>
                          try dsimp only [cond_false, cond_true]
                          all_goals
                            cases y_2836 with
                            | nil =>
                              try dsimp only [cond_false, cond_true]
                              all_goals rfl
                            | cons y_2837 y_2838 =>
                              try dsimp only [cond_false, cond_true]
                              all_goals
                                cases y_2837 with
                                | mk y_2839 y_2840 =>
                                  try dsimp only [cond_false, cond_true]
                                  all_goals
                                    cases y_2838 with
                                    | nil =>
                                      try dsimp only [cond_false, cond_true]
                                      all_goals
                                        cases y_2833 with
                                        | nil =>
                                          try dsimp only [cond_false, cond_true]
                                          all_goals
                                            cases hq_11 : ((bif (Nat.ble 100 y_2829) then ((bif (isZ y_2835) then ((bif (eqI y_2840 1) then ((bif (Nat.ble nx y_2839) then (Nat.blt ((Nat.sub y_2839 nx)) nI) else false)) else false)) else false)) else false)) with
                                            | false =>
                                              try dsimp only [cond_false, cond_true]
                                              all_goals rfl
                                            | true =>
                                              try dsimp only [cond_false, cond_true]
                                              all_goals
                                                cases hq_12 : (look ((Nat.sub y_2839 nx))) with
                                                | none =>
                                                  try dsimp only [cond_false, cond_true]
                                                  all_goals rfl
                                                | some y_2841 =>
                                                  try dsimp only [cond_false, cond_true]
                                                  all_goals
                                                    cases y_2841 with
                                                    | inl y_2842 =>
                                                      try dsimp only [cond_false, cond_true]
                                                      all_goals rfl
                                                    | inr y_2843 =>
                                                      try dsimp only [cond_false, cond_true]
                                                      all_goals
                                                        cases y_2843 with
                                                        | mk y_2844 y_2845 =>
                                                          try dsimp only [cond_false, cond_true]
                                                          all_goals
                                                            cases y_2845 with
                                                            | inl y_2846 =>
                                                              try dsimp only [cond_false, cond_true]
                                                              all_goals
                                                                cases hq_16 : ((bif (Nat.blt y_2844 100) then (Nat.beq ((Nat.add y_2844 100)) y_2829) else false)) with
                                                                | false =>
                                                                  try dsimp only [cond_false, cond_true]
                                                                  all_goals rfl
                                                                | true =>
                                                                  try dsimp only [cond_false, cond_true]
                                                                  all_goals rfl
                                                            | inr y_2847 =>
                                                              try dsimp only [cond_false, cond_true]
                                                              all_goals rfl
                                        | cons y_2848 y_2849 =>
                                          try dsimp only [cond_false, cond_true]
                                          all_goals rfl
                                    | cons y_2850 y_2851 =>
                                      try dsimp only [cond_false, cond_true]
                                      all_goals rfl
                    | inr y_2852 =>
                      try dsimp only [cond_false, cond_true]
                      all_goals rfl
            | inr y_2853 =>
              try dsimp only [cond_false, cond_true]
              all_goals rfl
noncomputable def lookZ (f : Nat → AC) (N i : Nat) : Option AC :=
  (Bool.rec (motive := fun _ => Option AC) none (some (f i)) (Nat.blt i N))
theorem lookZ_def (f : Nat → AC) (N i : Nat) : lookZ f N i = bif Nat.blt i N then some (f i) else none := by
  show (Bool.rec (motive := fun _ => Option AC) none (some (f i)) (Nat.blt i N)) = _
  try simp only [iAddQ_eq, iMulQ_eq, iNegQ_eq, lenQ_eq, nthQ_eq, setQ_eq, appQ_eq, mapQ_eq, allQ_eq, anyQ_eq, dropQ_eq, takeQ_eq, revQ_eq, getDQ_eq, optLQ_eq, brecC]
  all_goals
    cases hq_1 : (Nat.blt i N) with
    | false =>
      try dsimp only [cond_false, cond_true]
      all_goals rfl
    | true =>
      try dsimp only [cond_false, cond_true]
      all_goals rfl
noncomputable def resAll_a0 :=
  fun (f_2856 : (Nat → AC)) (H : AH) (nx : Nat) (nI : Nat) (H1 : AH) => ((mapQ (resG (lookZ f_2856 (lenQ H)) nx nI) H1) : AH)
noncomputable def resAll (nx nI : Nat) (H H1 : AH) : AH :=
  (Bool.rec (motive := fun _ => AH) (mapQ (resC nx nI H) H1) (Prod.rec (motive := fun _ => AH) (fun f_2856 x_2857 => (resAll_a0 f_2856 H nx nI H1)) (balZ (lvZ H) H)) (Nat.ble (lenQ H) (Nat.shiftLeft (nat_lit 1) (lvZ H))))
theorem resAll_def (nx nI : Nat) (H H1 : AH) : resAll nx nI H H1 = (bif Nat.ble H.length (Nat.shiftLeft 1 (lvZ H)) then (match balZ (lvZ H) H with
  | (f, _) => H1.map (resG (lookZ f H.length) nx nI)) else H1.map (resC nx nI H)) := by
  show (Bool.rec (motive := fun _ => AH) (mapQ (resC nx nI H) H1) (Prod.rec (motive := fun _ => AH) (fun f_2854 x_2855 => (mapQ (resG (lookZ f_2854 (lenQ H)) nx nI) H1)) (balZ (lvZ H) H)) (Nat.ble (lenQ H) (Nat.shiftLeft (nat_lit 1) (lvZ H)))) = _
  try simp only [iAddQ_eq, iMulQ_eq, iNegQ_eq, lenQ_eq, nthQ_eq, setQ_eq, appQ_eq, mapQ_eq, allQ_eq, anyQ_eq, dropQ_eq, takeQ_eq, revQ_eq, getDQ_eq, optLQ_eq, brecC]
  all_goals
    cases hq_1 : (Nat.ble H.length ((Nat.shiftLeft 1 ((lvZ H))))) with
    | false =>
      try dsimp only [cond_false, cond_true]
      all_goals rfl
    | true =>
      try dsimp only [cond_false, cond_true]
      all_goals
        cases hq_2 : (balZ ((lvZ H)) H) with
        | mk y_2858 y_2859 =>
          try dsimp only [cond_false, cond_true]
          all_goals rfl
theorem lookZ_eq {H : AH} {f : Nat → AC} (hf : ∀ t, t < H.length → f t = H.getD t (.inl (0, []))) : lookZ f H.length = fun i => H[i]? := by
  funext i
  rw [lookZ_def]
  cases hb : Nat.blt i H.length with
  | true =>
    have hk := blt_iff.mp hb
    rw [cond_true, hf i hk, List.getD_eq_getElem?_getD, List.getElem?_eq_getElem hk]
    rfl
  | false =>
    have hk := blt_f hb
    rw [cond_false, List.getElem?_eq_none (by omega)]
theorem resG_eq {H : AH} {nx nI : Nat} (c : AC) : resG (fun i => H[i]?) nx nI c = resC nx nI H c := by
  rw [resG_def, resC_def]
  all_goals first
    | rfl
    | (split <;> rfl)
    | (split <;> split <;> first | rfl | (exfalso; simp_all))
theorem resAll_eq (nx nI : Nat) (H H1 : AH) : resAll nx nI H H1 = H1.map (resC nx nI H) := by
  rw [resAll_def]
  cases hc : Nat.ble H.length (Nat.shiftLeft 1 (lvZ H)) with
  | false => rfl
  | true =>
    have h3 := Nat.le_of_ble_eq_true hc
    rw [show Nat.shiftLeft 1 (lvZ H) = 2 ^ lvZ H from Nat.one_shiftLeft _] at h3
    obtain ⟨-, b2⟩ := balZ_ok (lvZ H) H
    cases hb : balZ (lvZ H) H with
    | mk f r =>
      rw [hb] at b2
      try dsimp only at b2
      show H1.map (resG (lookZ f H.length) nx nI) = _
      rw [lookZ_eq (fun t ht => b2 t (by omega))]
      exact List.map_congr_left fun c _ => resG_eq c
noncomputable def sameA_a0 :=
  fun (e_2892 : Ln) (e_2904 : Ln) => ((Bool.rec (motive := fun _ => Bool) false (eqT e_2892.2 e_2904.2) (eqI e_2892.1 e_2904.1)) : Bool)
noncomputable def sameA_a1 :=
  fun (e_2892 : Ln) (e_2904 : Ln) (k_2898 : Nat) => ((Bool.rec (motive := fun _ => Bool) false (sameA_a0 e_2892 e_2904) (Nat.ble (nat_lit 100) k_2898)) : Bool)
noncomputable def sameA_a2 :=
  fun (e_2892 : Ln) (e_2904 : Ln) (k_2898 : Nat) (k_2886 : Nat) => ((Bool.rec (motive := fun _ => Bool) false (sameA_a1 e_2892 e_2904 k_2898) (Nat.ble (nat_lit 100) k_2886)) : Bool)
noncomputable def sameA (a b : AC) : Bool :=
  (Sum.rec (motive := fun _ => Bool) (fun x_2884 => false) (fun x_2885 => (Prod.rec (motive := fun _ => Bool) (fun k_2886 x_2887 => (Sum.rec (motive := fun _ => Bool) (fun x_2888 => (List.rec (motive := fun _ => Bool) false (fun x_2890 x_2891 _ => (Sum.rec (motive := fun _ => Bool) (fun e_2892 => (List.rec (motive := fun _ => Bool) (Sum.rec (motive := fun _ => Bool) (fun x_2896 => false) (fun x_2897 => (Prod.rec (motive := fun _ => Bool) (fun k_2898 x_2899 => (Sum.rec (motive := fun _ => Bool) (fun x_2900 => (List.rec (motive := fun _ => Bool) false (fun x_2902 x_2903 _ => (Sum.rec (motive := fun _ => Bool) (fun e_2904 => (List.rec (motive := fun _ => Bool) (sameA_a2 e_2892 e_2904 k_2898 k_2886) (fun x_2906 x_2907 _ => false) x_2903)) (fun x_2905 => false) x_2902)) x_2900)) (fun x_2901 => false) x_2899)) x_2897)) b) (fun x_2894 x_2895 _ => false) x_2891)) (fun x_2893 => false) x_2890)) x_2888)) (fun x_2889 => false) x_2887)) x_2885)) a)
theorem sameA_def (a b : AC) : sameA a b = (match a, b with
  | .inr (k, .inl [.inl e]), .inr (k', .inl [.inl e']) => bif Nat.ble 100 k then (bif Nat.ble 100 k' then (bif eqI e.1 e'.1 then eqT e.2 e'.2 else false) else false) else false
  | _, _ => false) := by
  show (Sum.rec (motive := fun _ => Bool) (fun x_2860 => false) (fun x_2861 => (Prod.rec (motive := fun _ => Bool) (fun k_2862 x_2863 => (Sum.rec (motive := fun _ => Bool) (fun x_2864 => (List.rec (motive := fun _ => Bool) false (fun x_2866 x_2867 _ => (Sum.rec (motive := fun _ => Bool) (fun e_2868 => (List.rec (motive := fun _ => Bool) (Sum.rec (motive := fun _ => Bool) (fun x_2872 => false) (fun x_2873 => (Prod.rec (motive := fun _ => Bool) (fun k_2874 x_2875 => (Sum.rec (motive := fun _ => Bool) (fun x_2876 => (List.rec (motive := fun _ => Bool) false (fun x_2878 x_2879 _ => (Sum.rec (motive := fun _ => Bool) (fun e_2880 => (List.rec (motive := fun _ => Bool) (Bool.rec (motive := fun _ => Bool) false (Bool.rec (motive := fun _ => Bool) false (Bool.rec (motive := fun _ => Bool) false (eqT e_2868.2 e_2880.2) (eqI e_2868.1 e_2880.1)) (Nat.ble (nat_lit 100) k_2874)) (Nat.ble (nat_lit 100) k_2862)) (fun x_2882 x_2883 _ => false) x_2879)) (fun x_2881 => false) x_2878)) x_2876)) (fun x_2877 => false) x_2875)) x_2873)) b) (fun x_2870 x_2871 _ => false) x_2867)) (fun x_2869 => false) x_2866)) x_2864)) (fun x_2865 => false) x_2863)) x_2861)) a) = _
  try simp only [iAddQ_eq, iMulQ_eq, iNegQ_eq, lenQ_eq, nthQ_eq, setQ_eq, appQ_eq, mapQ_eq, allQ_eq, anyQ_eq, dropQ_eq, takeQ_eq, revQ_eq, getDQ_eq, optLQ_eq, brecC]
  all_goals
    cases a with
    | inl y_2908 =>
      try dsimp only [cond_false, cond_true]
      all_goals rfl
    | inr y_2909 =>
      try dsimp only [cond_false, cond_true]
      all_goals
        cases y_2909 with
        | mk y_2910 y_2911 =>
          try dsimp only [cond_false, cond_true]
          all_goals
            cases y_2911 with
            | inl y_2912 =>
              try dsimp only [cond_false, cond_true]
              all_goals
                cases y_2912 with
                | nil =>
                  try dsimp only [cond_false, cond_true]
                  all_goals rfl
                | cons y_2913 y_2914 =>
                  try dsimp only [cond_false, cond_true]
                  all_goals
                    cases y_2913 with
                    | inl y_2915 =>
                      try dsimp only [cond_false, cond_true]
                      all_goals
                        cases y_2914 with
                        | nil =>
                          try dsimp only [cond_false, cond_true]
                          all_goals
                            cases b with
                            | inl y_2916 =>
                              try dsimp only [cond_false, cond_true]
                              all_goals rfl
                            | inr y_2917 =>
                              try dsimp only [cond_false, cond_true]
                              all_goals
                                cases y_2917 with
                                | mk y_2918 y_2919 =>
                                  try dsimp only [cond_false, cond_true]
                                  all_goals
                                    cases y_2919 with
                                    | inl y_2920 =>
                                      try dsimp only [cond_false, cond_true]
                                      all_goals
                                        cases y_2920 with
                                        | nil =>
                                          try dsimp only [cond_false, cond_true]
                                          all_goals rfl
                                        | cons y_2921 y_2922 =>
                                          try dsimp only [cond_false, cond_true]
                                          all_goals
                                            cases y_2921 with
                                            | inl y_2923 =>
                                              try dsimp only [cond_false, cond_true]
                                              all_goals
                                                cases y_2922 with
                                                | nil =>
                                                  try dsimp only [cond_false, cond_true]
                                                  all_goals
                                                    cases hq_13 : (Nat.ble 100 y_2910) with
                                                    | false =>
                                                      try dsimp only [cond_false, cond_true]
                                                      all_goals rfl
                                                    | true =>
                                                      try dsimp only [cond_false, cond_true]
                                                      all_goals
                                                        cases hq_14 : (Nat.ble 100 y_2918) with
                                                        | false =>
                                                          try dsimp only [cond_false, cond_true]
                                                          all_goals rfl
                                                        | true =>
                                                          try dsimp only [cond_false, cond_true]
                                                          all_goals
                                                            cases hq_15 : (eqI y_2915.1 y_2923.1) with
                                                            | false =>
                                                              try dsimp only [cond_false, cond_true]
                                                              all_goals rfl
                                                            | true =>
                                                              try dsimp only [cond_false, cond_true]
                                                              all_goals rfl
                                                | cons y_2924 y_2925 =>
                                                  try dsimp only [cond_false, cond_true]
                                                  all_goals rfl
                                            | inr y_2926 =>
                                              try dsimp only [cond_false, cond_true]
                                              all_goals rfl
                                    | inr y_2927 =>
                                      try dsimp only [cond_false, cond_true]
                                      all_goals rfl
                        | cons y_2928 y_2929 =>
                          try dsimp only [cond_false, cond_true]
                          all_goals rfl
                    | inr y_2930 =>
                      try dsimp only [cond_false, cond_true]
                      all_goals rfl
            | inr y_2931 =>
              try dsimp only [cond_false, cond_true]
              all_goals rfl
noncomputable def getC (H : AH) (i : Nat) : AC :=
  (getDQ H i (.inl ((nat_lit 0), [])))
theorem getC_def (H : AH) (i : Nat) : getC H i = H.getD i (.inl (0, [])) := by
  show (getDQ H i (.inl ((nat_lit 0), []))) = _
  try simp only [iAddQ_eq, iMulQ_eq, iNegQ_eq, lenQ_eq, nthQ_eq, setQ_eq, appQ_eq, mapQ_eq, allQ_eq, anyQ_eq, dropQ_eq, takeQ_eq, revQ_eq, getDQ_eq, optLQ_eq, brecC]
  all_goals rfl
noncomputable def okP_a0 :=
  fun (H' : AH) (h_0 : Nat) (I : List Nat) (H1 : AH) => ((sameA (getC H' (ixA h_0 I)) (getC H1 (ixA h_0 I))) : Bool)
noncomputable def okP_a1 :=
  fun (ih : Bool) (h_0 : Nat) (n : Nat) (H' : AH) (I : List Nat) (H1 : AH) => ((Bool.rec (motive := fun _ => Bool) false (ih) (Bool.rec (motive := fun _ => Bool) (Nat.blt h_0 n) (okP_a0 H' h_0 I H1) (memN h_0 I))) : Bool)
noncomputable def okP (I : List Nat) (n : Nat) (H' H1 : AH) : List Nat → Bool :=
  fun e_0 => List.rec (motive := fun _ => Bool) true (fun h_0 t_0 ih => (okP_a1 ih h_0 n H' I H1)) e_0 
theorem okP_def (I : List Nat) (n : Nat) (H' H1 : AH) (e_0 : List Nat) : okP I n H' H1 e_0 = (match e_0 with
  | [] => true
  | c :: r => bif (bif memN c I then sameA (getC H' (ixA c I)) (getC H1 (ixA c I)) else Nat.blt c n) then okP I n H' H1 r else false) := by
  cases e_0 with
  | nil =>
    show true = _
    try simp only [iAddQ_eq, iMulQ_eq, iNegQ_eq, lenQ_eq, nthQ_eq, setQ_eq, appQ_eq, mapQ_eq, allQ_eq, anyQ_eq, dropQ_eq, takeQ_eq, revQ_eq, getDQ_eq, optLQ_eq, brecC]
    all_goals rfl
  | cons h_0 t_0 =>
    show (Bool.rec (motive := fun _ => Bool) false (okP I n H' H1 t_0) (Bool.rec (motive := fun _ => Bool) (Nat.blt h_0 n) (sameA (getC H' (ixA h_0 I)) (getC H1 (ixA h_0 I))) (memN h_0 I))) = _
    try simp only [iAddQ_eq, iMulQ_eq, iNegQ_eq, lenQ_eq, nthQ_eq, setQ_eq, appQ_eq, mapQ_eq, allQ_eq, anyQ_eq, dropQ_eq, takeQ_eq, revQ_eq, getDQ_eq, optLQ_eq, brecC]
    all_goals
      cases hq_1 : ((bif (memN h_0 I) then (sameA ((getC H' ((ixA h_0 I)))) ((getC H1 ((ixA h_0 I))))) else (Nat.blt h_0 n))) with
      | false =>
        try dsimp only [cond_false, cond_true]
        all_goals rfl
      | true =>
        try dsimp only [cond_false, cond_true]
        all_goals rfl
noncomputable def prSame_a0 :=
  fun (ih : List PD) (h_0 : PD) (I : List Nat) (n : Nat) (H' : AH) (H1 : AH) => ((Bool.rec (motive := fun _ => List PD) (ih) (h_0 :: (ih)) (okP I n H' H1 h_0.2.1)) : List PD)
noncomputable def prSame (I : List Nat) (n : Nat) (H' H1 : AH) : List PD → List PD :=
  fun e_0 => List.rec (motive := fun _ => List PD) [] (fun h_0 t_0 ih => (prSame_a0 ih h_0 I n H' H1)) e_0 
theorem prSame_def (I : List Nat) (n : Nat) (H' H1 : AH) (e_0 : List PD) : prSame I n H' H1 e_0 = (match e_0 with
  | [] => []
  | p :: r => bif okP I n H' H1 p.2.1 then p :: prSame I n H' H1 r else prSame I n H' H1 r) := by
  cases e_0 with
  | nil =>
    show [] = _
    try simp only [iAddQ_eq, iMulQ_eq, iNegQ_eq, lenQ_eq, nthQ_eq, setQ_eq, appQ_eq, mapQ_eq, allQ_eq, anyQ_eq, dropQ_eq, takeQ_eq, revQ_eq, getDQ_eq, optLQ_eq, brecC]
    all_goals rfl
  | cons h_0 t_0 =>
    show (Bool.rec (motive := fun _ => List PD) (prSame I n H' H1 t_0) (h_0 :: (prSame I n H' H1 t_0)) (okP I n H' H1 h_0.2.1)) = _
    try simp only [iAddQ_eq, iMulQ_eq, iNegQ_eq, lenQ_eq, nthQ_eq, setQ_eq, appQ_eq, mapQ_eq, allQ_eq, anyQ_eq, dropQ_eq, takeQ_eq, revQ_eq, getDQ_eq, optLQ_eq, brecC]
    all_goals
      cases hq_1 : (okP I n H' H1 h_0.2.1) with
      | false =>
        try dsimp only [cond_false, cond_true]
        all_goals rfl
      | true =>
        try dsimp only [cond_false, cond_true]
        all_goals rfl
noncomputable def copyTo_a0 :=
  fun (ih : AH → List PD) (H1_2933 : List AC) (kd : Nat) (h_0 : Nat) (ns : List Ln) (c : AC) (h_2932 : AC) => ((Bool.rec (motive := fun _ => List PD) (ih H1_2933) ((kd, [h_0], ns) :: (ih H1_2933)) (sameA c h_2932)) : List PD)
noncomputable def copyTo (kd : Nat) (ns : List Ln) (c : AC) : List Nat → AH → List PD :=
  fun e_0 e_1 => List.rec (motive := fun _ => AH → List PD) (fun e_1 => []) (fun h_0 t_0 ih e_1 => (List.rec (motive := fun _ => List PD) [] (fun h_2932 H1_2933 _ => (copyTo_a0 ih H1_2933 kd h_0 ns c h_2932)) e_1)) e_0 e_1
theorem copyTo_def (kd : Nat) (ns : List Ln) (c : AC) (e_0 : List Nat) (e_1 : AH) : copyTo kd ns c e_0 e_1 = (match e_0, e_1 with
  | i :: I, h :: H1 => bif sameA c h then (kd, [i], ns) :: copyTo kd ns c I H1 else copyTo kd ns c I H1
  | _, _ => []) := by
  cases e_0 with
  | nil =>
    show [] = _
    try simp only [iAddQ_eq, iMulQ_eq, iNegQ_eq, lenQ_eq, nthQ_eq, setQ_eq, appQ_eq, mapQ_eq, allQ_eq, anyQ_eq, dropQ_eq, takeQ_eq, revQ_eq, getDQ_eq, optLQ_eq, brecC]
    all_goals rfl
  | cons h_0 t_0 =>
    show (List.rec (motive := fun _ => List PD) [] (fun h_2934 H1_2935 _ => (Bool.rec (motive := fun _ => List PD) (copyTo kd ns c t_0 H1_2935) ((kd, [h_0], ns) :: (copyTo kd ns c t_0 H1_2935)) (sameA c h_2934))) e_1) = _
    try simp only [iAddQ_eq, iMulQ_eq, iNegQ_eq, lenQ_eq, nthQ_eq, setQ_eq, appQ_eq, mapQ_eq, allQ_eq, anyQ_eq, dropQ_eq, takeQ_eq, revQ_eq, getDQ_eq, optLQ_eq, brecC]
    all_goals
      cases e_1 with
      | nil =>
        try dsimp only [cond_false, cond_true]
        all_goals rfl
      | cons y_2936 y_2937 =>
        try dsimp only [cond_false, cond_true]
        all_goals
          cases hq_2 : (sameA c y_2936) with
          | false =>
            try dsimp only [cond_false, cond_true]
            all_goals rfl
          | true =>
            try dsimp only [cond_false, cond_true]
            all_goals rfl
noncomputable def prCopy_a0 :=
  fun (h_0 : PD) (H' : AH) (q_2938 : Nat) (I : List Nat) (H1 : AH) (ih : List PD) => ((appQ (copyTo h_0.1 h_0.2.2 (getC H' (ixA q_2938 I)) I H1) (ih)) : List PD)
noncomputable def prCopy_a1 :=
  fun (ih : List PD) (h_0 : PD) (H' : AH) (q_2938 : Nat) (I : List Nat) (H1 : AH) => ((Bool.rec (motive := fun _ => List PD) (ih) (prCopy_a0 h_0 H' q_2938 I H1 ih) (memN q_2938 I)) : List PD)
noncomputable def prCopy (I : List Nat) (H' H1 : AH) : List PD → List PD :=
  fun e_0 => List.rec (motive := fun _ => List PD) [] (fun h_0 t_0 ih => (List.rec (motive := fun _ => List PD) (ih) (fun q_2938 x_2939 _ => (List.rec (motive := fun _ => List PD) (prCopy_a1 ih h_0 H' q_2938 I H1) (fun x_2940 x_2941 _ => (ih)) x_2939)) h_0.2.1)) e_0 
theorem prCopy_def (I : List Nat) (H' H1 : AH) (e_0 : List PD) : prCopy I H' H1 e_0 = (match e_0 with
  | [] => []
  | p :: r => match p.2.1 with
    | [q] => bif memN q I then copyTo p.1 p.2.2 (getC H' (ixA q I)) I H1 ++ prCopy I H' H1 r else prCopy I H' H1 r
    | _ => prCopy I H' H1 r) := by
  cases e_0 with
  | nil =>
    show [] = _
    try simp only [iAddQ_eq, iMulQ_eq, iNegQ_eq, lenQ_eq, nthQ_eq, setQ_eq, appQ_eq, mapQ_eq, allQ_eq, anyQ_eq, dropQ_eq, takeQ_eq, revQ_eq, getDQ_eq, optLQ_eq, brecC]
    all_goals rfl
  | cons h_0 t_0 =>
    show (List.rec (motive := fun _ => List PD) (prCopy I H' H1 t_0) (fun q_2942 x_2943 _ => (List.rec (motive := fun _ => List PD) (Bool.rec (motive := fun _ => List PD) (prCopy I H' H1 t_0) (appQ (copyTo h_0.1 h_0.2.2 (getC H' (ixA q_2942 I)) I H1) (prCopy I H' H1 t_0)) (memN q_2942 I)) (fun x_2944 x_2945 _ => (prCopy I H' H1 t_0)) x_2943)) h_0.2.1) = _
    try simp only [iAddQ_eq, iMulQ_eq, iNegQ_eq, lenQ_eq, nthQ_eq, setQ_eq, appQ_eq, mapQ_eq, allQ_eq, anyQ_eq, dropQ_eq, takeQ_eq, revQ_eq, getDQ_eq, optLQ_eq, brecC]
    all_goals
      cases hq_1 : h_0.2.1 with
      | nil =>
        try dsimp only [cond_false, cond_true]
        all_goals rfl
      | cons y_2946 y_2947 =>
        try dsimp only [cond_false, cond_true]
        all_goals
          cases y_2947 with
          | nil =>
            try dsimp only [cond_false, cond_true]
            all_goals
              cases hq_3 : (memN y_2946 I) with
              | false =>
                try dsimp only [cond_false, cond_true]
                all_goals rfl
              | true =>
                try dsimp only [cond_false, cond_true]
                all_goals rfl
          | cons y_2948 y_2949 =>
            try dsimp only [cond_false, cond_true]
            all_goals rfl
noncomputable def prSb (θ : Th) (pr : List PD) : List PD :=
  (mapQ (fun p => (p.1, p.2.1, (mapQ (sbL θ) p.2.2))) pr)
theorem prSb_def (θ : Th) (pr : List PD) : prSb θ pr = pr.map (fun p => (p.1, p.2.1, p.2.2.map (sbL θ))) := by
  show (mapQ (fun p => (p.1, p.2.1, (mapQ (sbL θ) p.2.2))) pr) = _
  try simp only [iAddQ_eq, iMulQ_eq, iNegQ_eq, lenQ_eq, nthQ_eq, setQ_eq, appQ_eq, mapQ_eq, allQ_eq, anyQ_eq, dropQ_eq, takeQ_eq, revQ_eq, getDQ_eq, optLQ_eq, brecC]
  all_goals rfl
noncomputable def outK_a0 :=
  fun (A : AH) (H1 : AH) => ((Nat.blt (Nat.add (lenQ A) (lenQ H1)) sIdx) : Bool)
noncomputable def outK_a1 :=
  fun (A : AH) (H1 : AH) => ((Bool.rec (motive := fun _ => Bool) false (outK_a0 A H1) (allQ (okCA (lenQ A)) A)) : Bool)
noncomputable def outK_a2 :=
  fun (k : KK) (pc : Nat) (θo : Th) (o : Ot) (rest : List AV) (lv : AL) (A : AH) (I : List Nat) (nx : Nat) (H : AH) (H1 : AH) (H' : AH) (pr : List PD) (pnx : Nat) (tab2 : Tb) (fs2 : List Ln) (ca : Nat) (cb : Nat) => ((k (Nat.add pc (nat_lit 3)) (appQ (mapQ (sbV θo) o.1.2.2.2.1) rest) lv (aPasteZ A I (resAll nx (lenQ I) H H1)) (appQ (prBack I (lenQ A) (lenQ H1) (prSb θo o.1.2.2.2.2.2)) (appQ (prSame I (lenQ A) H' H1 pr) (prCopy I H' H1 pr))) (Nat.add (Nat.add nx (lenQ I)) (Nat.sub o.1.1 pnx)) tab2 fs2 (Nat.add ca o.2.1) (Nat.add cb o.2.2)) : Bool)
noncomputable def outK_a3 :=
  fun (k : KK) (pc : Nat) (θo : Th) (o : Ot) (rest : List AV) (lv : AL) (A : AH) (I : List Nat) (nx : Nat) (H : AH) (H1 : AH) (H' : AH) (pr : List PD) (pnx : Nat) (tab2 : Tb) (fs2 : List Ln) (ca : Nat) (cb : Nat) => ((Bool.rec (motive := fun _ => Bool) false (outK_a2 k pc θo o rest lv A I nx H H1 H' pr pnx tab2 fs2 ca cb) (Bool.rec (motive := fun _ => Bool) (outK_a1 A H1) true (Nat.beq (lenQ H1) (lenQ I)))) : Bool)
noncomputable def outK_a4 :=
  fun (k : KK) (pc : Nat) (θo : Th) (o : Ot) (rest : List AV) (lv : AL) (A : AH) (I : List Nat) (nx : Nat) (H : AH) (H1 : AH) (H' : AH) (pr : List PD) (pnx : Nat) (tab2 : Tb) (fs2 : List Ln) (ca : Nat) (cb : Nat) => ((Bool.rec (motive := fun _ => Bool) false (outK_a3 k pc θo o rest lv A I nx H H1 H' pr pnx tab2 fs2 ca cb) (allQ (okCA (lenQ H1)) H1)) : Bool)
noncomputable def outK (k : KK) (pc : Nat) (rest : List AV) (lv : AL) (A : AH) (pr : List PD) (nx : Nat) (ca cb : Nat) (θo : Th) (I : List Nat) (H H' : AH) (pnx : Nat) (o : Ot) (tab2 : Tb) (fs2 : List Ln) (H1 : AH) : Bool :=
  (Bool.rec (motive := fun _ => Bool) false (outK_a4 k pc θo o rest lv A I nx H H1 H' pr pnx tab2 fs2 ca cb) (Nat.ble (lenQ I) (lenQ H1)))
theorem outK_def (k : KK) (pc : Nat) (rest : List AV) (lv : AL) (A : AH) (pr : List PD) (nx : Nat) (ca cb : Nat) (θo : Th) (I : List Nat) (H H' : AH) (pnx : Nat) (o : Ot) (tab2 : Tb) (fs2 : List Ln) (H1 : AH) : outK k pc rest lv A pr nx ca cb θo I H H' pnx o tab2 fs2 H1 = bif Nat.ble I.length H1.length then (bif H1.all (okCA H1.length) then (bif (bif Nat.beq H1.length I.length then true else bif A.all (okCA A.length) then Nat.blt (Nat.add A.length H1.length) sIdx else false) then k (Nat.add pc 3) (o.1.2.2.2.1.map (sbV θo) ++ rest) lv (aPasteZ A I (resAll nx I.length H H1)) (prBack I A.length H1.length (prSb θo o.1.2.2.2.2.2) ++ (prSame I A.length H' H1 pr ++ prCopy I H' H1 pr)) (Nat.add (Nat.add nx I.length) (Nat.sub o.1.1 pnx)) tab2 fs2 (Nat.add ca o.2.1) (Nat.add cb o.2.2) else false) else false) else false := by
  show (Bool.rec (motive := fun _ => Bool) false (Bool.rec (motive := fun _ => Bool) false (Bool.rec (motive := fun _ => Bool) false (k (Nat.add pc (nat_lit 3)) (appQ (mapQ (sbV θo) o.1.2.2.2.1) rest) lv (aPasteZ A I (resAll nx (lenQ I) H H1)) (appQ (prBack I (lenQ A) (lenQ H1) (prSb θo o.1.2.2.2.2.2)) (appQ (prSame I (lenQ A) H' H1 pr) (prCopy I H' H1 pr))) (Nat.add (Nat.add nx (lenQ I)) (Nat.sub o.1.1 pnx)) tab2 fs2 (Nat.add ca o.2.1) (Nat.add cb o.2.2)) (Bool.rec (motive := fun _ => Bool) (Bool.rec (motive := fun _ => Bool) false (Nat.blt (Nat.add (lenQ A) (lenQ H1)) sIdx) (allQ (okCA (lenQ A)) A)) true (Nat.beq (lenQ H1) (lenQ I)))) (allQ (okCA (lenQ H1)) H1)) (Nat.ble (lenQ I) (lenQ H1))) = _
  try simp only [iAddQ_eq, iMulQ_eq, iNegQ_eq, lenQ_eq, nthQ_eq, setQ_eq, appQ_eq, mapQ_eq, allQ_eq, anyQ_eq, dropQ_eq, takeQ_eq, revQ_eq, getDQ_eq, optLQ_eq, brecC]
  all_goals
    cases hq_1 : (Nat.ble I.length H1.length) with
    | false =>
      try dsimp only [cond_false, cond_true]
      all_goals rfl
    | true =>
      try dsimp only [cond_false, cond_true]
      all_goals
        cases hq_2 : (H1.all ((okCA H1.length))) with
        | false =>
          try dsimp only [cond_false, cond_true]
          all_goals rfl
        | true =>
          try dsimp only [cond_false, cond_true]
          all_goals
            cases hq_3 : ((bif (Nat.beq H1.length I.length) then true else (bif (A.all ((okCA A.length))) then (Nat.blt ((Nat.add A.length H1.length)) sIdx) else false))) with
            | false =>
              try dsimp only [cond_false, cond_true]
              all_goals rfl
            | true =>
              try dsimp only [cond_false, cond_true]
              all_goals rfl
noncomputable def outA_a0 :=
  fun (k : KK) (pc : Nat) (rest : List AV) (lv : AL) (A : AH) (pr : List PD) (nx : Nat) (ca : Nat) (cb : Nat) (θ : Th) (I : List Nat) (pnx : Nat) (H : AH) (H' : AH) (o : Ot) (tab2_2960 : Tb) (fs2_2961 : List Ln) => ((outK k pc rest lv A pr nx ca cb (thN θ (Nat.add nx (lenQ I)) pnx) I H H' pnx o tab2_2960 fs2_2961 (mapQ (sbC (thN θ (Nat.add nx (lenQ I)) pnx)) o.1.2.2.2.2.1)) : Bool)
noncomputable def outA (k : KK) (pc : Nat) (rest : List AV) (lv : AL) (A : AH) (pr : List PD) (nx : Nat) (tab : Tb) (fs : List Ln) (ca cb : Nat) (θ : Th) (I : List Nat) (H H' : AH) (pnx : Nat) (o : Ot) : Bool :=
  (Option.rec (motive := fun _ => Bool) true (fun x_2956 => (Prod.rec (motive := fun _ => Bool) (fun tab1_2957 fs1_2958 => (Option.rec (motive := fun _ => Bool) true (fun x_2959 => (Prod.rec (motive := fun _ => Bool) (fun tab2_2960 fs2_2961 => (outA_a0 k pc rest lv A pr nx ca cb θ I pnx H H' o tab2_2960 fs2_2961)) x_2959)) (addF' (thN θ (Nat.add nx (lenQ I)) pnx) o.1.2.2.1 (tbO tab1_2957 (Nat.add nx (lenQ I)) pnx o.1.1 o.1.2.1) fs1_2958))) x_2956)) (addT' θ pnx o.1.2.1 tab fs))
theorem outA_def (k : KK) (pc : Nat) (rest : List AV) (lv : AL) (A : AH) (pr : List PD) (nx : Nat) (tab : Tb) (fs : List Ln) (ca cb : Nat) (θ : Th) (I : List Nat) (H H' : AH) (pnx : Nat) (o : Ot) : outA k pc rest lv A pr nx tab fs ca cb θ I H H' pnx o = (match addT' θ pnx o.1.2.1 tab fs with
  | none => true
  | some (tab1, fs1) => match addF' (thN θ (Nat.add nx I.length) pnx) o.1.2.2.1 (tbO tab1 (Nat.add nx I.length) pnx o.1.1 o.1.2.1) fs1 with
    | none => true
    | some (tab2, fs2) => outK k pc rest lv A pr nx ca cb (thN θ (Nat.add nx I.length) pnx) I H H' pnx o tab2 fs2 (o.1.2.2.2.2.1.map (sbC (thN θ (Nat.add nx I.length) pnx)))) := by
  show (Option.rec (motive := fun _ => Bool) true (fun x_2950 => (Prod.rec (motive := fun _ => Bool) (fun tab1_2951 fs1_2952 => (Option.rec (motive := fun _ => Bool) true (fun x_2953 => (Prod.rec (motive := fun _ => Bool) (fun tab2_2954 fs2_2955 => (outK k pc rest lv A pr nx ca cb (thN θ (Nat.add nx (lenQ I)) pnx) I H H' pnx o tab2_2954 fs2_2955 (mapQ (sbC (thN θ (Nat.add nx (lenQ I)) pnx)) o.1.2.2.2.2.1))) x_2953)) (addF' (thN θ (Nat.add nx (lenQ I)) pnx) o.1.2.2.1 (tbO tab1_2951 (Nat.add nx (lenQ I)) pnx o.1.1 o.1.2.1) fs1_2952))) x_2950)) (addT' θ pnx o.1.2.1 tab fs)) = _
  try simp only [iAddQ_eq, iMulQ_eq, iNegQ_eq, lenQ_eq, nthQ_eq, setQ_eq, appQ_eq, mapQ_eq, allQ_eq, anyQ_eq, dropQ_eq, takeQ_eq, revQ_eq, getDQ_eq, optLQ_eq, brecC]
  all_goals
    cases hq_1 : (addT' θ pnx o.1.2.1 tab fs) with
    | none =>
      try dsimp only [cond_false, cond_true]
      all_goals rfl
    | some y_2962 =>
      try dsimp only [cond_false, cond_true]
      all_goals
        cases y_2962 with
        | mk y_2963 y_2964 =>
          try dsimp only [cond_false, cond_true]
          all_goals
            cases hq_3 : (addF' ((thN θ ((Nat.add nx I.length)) pnx)) o.1.2.2.1 ((tbO y_2963 ((Nat.add nx I.length)) pnx o.1.1 o.1.2.1)) y_2964) with
            | none =>
              try dsimp only [cond_false, cond_true]
              all_goals rfl
            | some y_2965 =>
              try dsimp only [cond_false, cond_true]
              all_goals
                cases y_2965 with
                | mk y_2966 y_2967 =>
                  try dsimp only [cond_false, cond_true]
                  all_goals rfl
noncomputable def outAll_a0 :=
  fun (ih : Bool) (k : Ot → Bool) (h_0 : Ot) => ((Bool.rec (motive := fun _ => Bool) false (ih) (k h_0)) : Bool)
noncomputable def outAll (k : Ot → Bool) : List Ot → Bool :=
  fun e_0 => List.rec (motive := fun _ => Bool) true (fun h_0 t_0 ih => (outAll_a0 ih k h_0)) e_0 
theorem outAll_def (k : Ot → Bool) (e_0 : List Ot) : outAll k e_0 = (match e_0 with
  | [] => true
  | o :: r => bif k o then outAll k r else false) := by
  cases e_0 with
  | nil =>
    show true = _
    try simp only [iAddQ_eq, iMulQ_eq, iNegQ_eq, lenQ_eq, nthQ_eq, setQ_eq, appQ_eq, mapQ_eq, allQ_eq, anyQ_eq, dropQ_eq, takeQ_eq, revQ_eq, getDQ_eq, optLQ_eq, brecC]
    all_goals rfl
  | cons h_0 t_0 =>
    show (Bool.rec (motive := fun _ => Bool) false (outAll k t_0) (k h_0)) = _
    try simp only [iAddQ_eq, iMulQ_eq, iNegQ_eq, lenQ_eq, nthQ_eq, setQ_eq, appQ_eq, mapQ_eq, allQ_eq, anyQ_eq, dropQ_eq, takeQ_eq, revQ_eq, getDQ_eq, optLQ_eq, brecC]
    all_goals
      cases hq_1 : (k h_0) with
      | false =>
        try dsimp only [cond_false, cond_true]
        all_goals rfl
      | true =>
        try dsimp only [cond_false, cond_true]
        all_goals rfl
noncomputable def oneCt_a0 :=
  fun (k : KK) (pc : Nat) (rest : List AV) (lv : AL) (A : AH) (pr : List PD) (nx : Nat) (tab : Tb) (fs : List Ln) (ca : Nat) (cb : Nat) (θ : Th) (I : List Nat) (H : AH) (H' : AH) (C : Ct) => (outAll (outA k pc rest lv A pr nx tab fs ca cb θ I H H' C.2.2.1.1) C.2.2.2)
noncomputable def oneCt_a1 :=
  fun (k : KK) (pc : Nat) (rest : List AV) (lv : AL) (A : AH) (pr : List PD) (nx : Nat) (tab : Tb) (fs : List Ln) (ca : Nat) (cb : Nat) (θ : Th) (I : List Nat) (H : AH) (H' : AH) (C : Ct) => ((some (Bool.rec (motive := fun _ => _) false (oneCt_a0 k pc rest lv A pr nx tab fs ca cb θ I H H' C) (loopJ (fun s => (scL (Nat.add nx (lenQ I)) (θ s))) C.2.2.1.1 (nat_lit 0)))) : Option Bool)
noncomputable def oneCt (k : KK) (pc : Nat) (as' : List AV) (H : AH) (pr' : List PD) (rest : List AV) (lv : AL) (A : AH) (pr : List PD) (nx : Nat) (tab : Tb) (fs : List Ln) (ca cb : Nat) (I : List Nat) (C : Ct) (H' : AH) (θ : Th) : Option Bool :=
  (Bool.rec (motive := fun _ => Option Bool) none (oneCt_a1 k pc rest lv A pr nx tab fs ca cb θ I H H' C) (instP tab fs θ C.2.2.1 as' H' pr'))
theorem oneCt_def (k : KK) (pc : Nat) (as' : List AV) (H : AH) (pr' : List PD) (rest : List AV) (lv : AL) (A : AH) (pr : List PD) (nx : Nat) (tab : Tb) (fs : List Ln) (ca cb : Nat) (I : List Nat) (C : Ct) (H' : AH) (θ : Th) : oneCt k pc as' H pr' rest lv A pr nx tab fs ca cb I C H' θ = bif instP tab fs θ C.2.2.1 as' H' pr' then some (bif loopJ (fun s => scL (Nat.add nx I.length) (θ s)) C.2.2.1.1 0 then outAll (outA k pc rest lv A pr nx tab fs ca cb θ I H H' C.2.2.1.1) C.2.2.2 else false) else none := by
  show (Bool.rec (motive := fun _ => Option Bool) none (some (Bool.rec (motive := fun _ => _) false (outAll (outA k pc rest lv A pr nx tab fs ca cb θ I H H' C.2.2.1.1) C.2.2.2) (loopJ (fun s => (scL (Nat.add nx (lenQ I)) (θ s))) C.2.2.1.1 (nat_lit 0)))) (instP tab fs θ C.2.2.1 as' H' pr')) = _
  try simp only [iAddQ_eq, iMulQ_eq, iNegQ_eq, lenQ_eq, nthQ_eq, setQ_eq, appQ_eq, mapQ_eq, allQ_eq, anyQ_eq, dropQ_eq, takeQ_eq, revQ_eq, getDQ_eq, optLQ_eq, brecC]
  all_goals
    cases hq_1 : (instP tab fs θ C.2.2.1 as' H' pr') with
    | false =>
      try dsimp only [cond_false, cond_true]
      all_goals rfl
    | true =>
      try dsimp only [cond_false, cond_true]
      all_goals rfl
noncomputable def withFO (θ : Un) (k : Th → Option Bool) : Option Bool :=
  (Prod.rec (motive := fun _ => Option Bool) (fun x_2972 x_2973 => (Prod.rec (motive := fun _ => Option Bool) (fun f_2974 x_2975 => (k f_2974)) x_2973)) (balF (nat_lit 9) θ.2))
theorem withFO_def (θ : Un) (k : Th → Option Bool) : withFO θ k = (match balF 9 θ.2 with
  | (_, f, _) => k f) := by
  show (Prod.rec (motive := fun _ => Option Bool) (fun x_2968 x_2969 => (Prod.rec (motive := fun _ => Option Bool) (fun f_2970 x_2971 => (k f_2970)) x_2969)) (balF (nat_lit 9) θ.2)) = _
  all_goals
    cases hq_1 : (balF 9 θ.2) with
    | mk y_2976 y_2977 =>
      try dsimp only [cond_false, cond_true]
      all_goals
        cases y_2977 with
        | mk y_2978 y_2979 =>
          try dsimp only [cond_false, cond_true]
          all_goals rfl
noncomputable def tryCt (k : KK) (pc : Nat) (as' : List AV) (H : AH) (pr' : List PD) (rest : List AV) (lv : AL) (A : AH) (pr : List PD) (nx : Nat) (tab : Tb) (fs : List Ln) (ca cb : Nat) (I : List Nat) (C : Ct) (H' : AH) : Option Bool :=
  (withFO (thOf tab fs C.2.2.1 as' H' pr') (oneCt k pc as' H pr' rest lv A pr nx tab fs ca cb I C H'))
theorem tryCt_def (k : KK) (pc : Nat) (as' : List AV) (H : AH) (pr' : List PD) (rest : List AV) (lv : AL) (A : AH) (pr : List PD) (nx : Nat) (tab : Tb) (fs : List Ln) (ca cb : Nat) (I : List Nat) (C : Ct) (H' : AH) : tryCt k pc as' H pr' rest lv A pr nx tab fs ca cb I C H' = withFO (thOf tab fs C.2.2.1 as' H' pr') (oneCt k pc as' H pr' rest lv A pr nx tab fs ca cb I C H') := by
  show (withFO (thOf tab fs C.2.2.1 as' H' pr') (oneCt k pc as' H pr' rest lv A pr nx tab fs ca cb I C H')) = _
  all_goals rfl
noncomputable def callCt (k : KK) (pc a : Nat) (as' : List AV) (H : AH) (pr' : List PD) (rest : List AV) (lv : AL) (A : AH) (pr : List PD) (nx : Nat) (tab : Tb) (fs : List Ln) (ca cb : Nat) (I : List Nat) : List Ct → Bool :=
  fun e_0 => List.rec (motive := fun _ => Bool) false (fun h_0 t_0 ih => (Bool.rec (motive := fun _ => Bool) (ih) (Option.rec (motive := fun _ => Bool) (ih) (fun b_2980 => b_2980) (tryCt k pc as' H pr' rest lv A pr nx tab fs ca cb I h_0 (convH nx (nat_lit 0) h_0.2.2.1.2.2.2.2.1 H))) (Nat.beq h_0.1 a))) e_0 
theorem callCt_def (k : KK) (pc a : Nat) (as' : List AV) (H : AH) (pr' : List PD) (rest : List AV) (lv : AL) (A : AH) (pr : List PD) (nx : Nat) (tab : Tb) (fs : List Ln) (ca cb : Nat) (I : List Nat) (e_0 : List Ct) : callCt k pc a as' H pr' rest lv A pr nx tab fs ca cb I e_0 = (match e_0 with
  | [] => false
  | C :: r => bif Nat.beq C.1 a then (match tryCt k pc as' H pr' rest lv A pr nx tab fs ca cb I C (convH nx 0 C.2.2.1.2.2.2.2.1 H) with
    | some b => b
    | none => callCt k pc a as' H pr' rest lv A pr nx tab fs ca cb I r) else callCt k pc a as' H pr' rest lv A pr nx tab fs ca cb I r) := by
  cases e_0 with
  | nil =>
    show false = _
    try simp only [iAddQ_eq, iMulQ_eq, iNegQ_eq, lenQ_eq, nthQ_eq, setQ_eq, appQ_eq, mapQ_eq, allQ_eq, anyQ_eq, dropQ_eq, takeQ_eq, revQ_eq, getDQ_eq, optLQ_eq, brecC]
    all_goals rfl
  | cons h_0 t_0 =>
    show (Bool.rec (motive := fun _ => Bool) (callCt k pc a as' H pr' rest lv A pr nx tab fs ca cb I t_0) (Option.rec (motive := fun _ => Bool) (callCt k pc a as' H pr' rest lv A pr nx tab fs ca cb I t_0) (fun b_2981 => b_2981) (tryCt k pc as' H pr' rest lv A pr nx tab fs ca cb I h_0 (convH nx (nat_lit 0) h_0.2.2.1.2.2.2.2.1 H))) (Nat.beq h_0.1 a)) = _
    try simp only [iAddQ_eq, iMulQ_eq, iNegQ_eq, lenQ_eq, nthQ_eq, setQ_eq, appQ_eq, mapQ_eq, allQ_eq, anyQ_eq, dropQ_eq, takeQ_eq, revQ_eq, getDQ_eq, optLQ_eq, brecC]
    all_goals
      cases hq_1 : (Nat.beq h_0.1 a) with
      | false =>
        try dsimp only [cond_false, cond_true]
        all_goals rfl
      | true =>
        try dsimp only [cond_false, cond_true]
        all_goals
          cases hq_2 : (tryCt k pc as' H pr' rest lv A pr nx tab fs ca cb I h_0 ((convH nx 0 h_0.2.2.1.2.2.2.2.1 H))) with
          | none =>
            try dsimp only [cond_false, cond_true]
            all_goals rfl
          | some y_2982 =>
            try dsimp only [cond_false, cond_true]
            all_goals rfl
noncomputable def isClsA (me : ME) (as : List AV) (A : AH) : Bool := match mKd me, as with
  | 0, .inr (.inl (some q)) :: _ => match A[q]? with
    | some (.inl (ci, _)) => bif Nat.beq ci (mOw me) then Nat.blt ci 13 else false
    | _ => false
  | 1, .inr (.inl (some _)) :: _ => true
  | 2, _ => true
  | _, _ => false
noncomputable def g7 (env : List Ct) (k : KK) (i : Instr) (a b pc : Nat) (st : List AV) (lv : AL) (A : AH) (pr : List PD) (nx : Nat) (tab : Tb) (fs : List Ln) (ca cb : Nat) : Bool :=
  bif isCall i then (match nthQ meths a with
  | none => false
  | some me => bif Nat.ble b st.length then (bif Nat.ble (((st.drop b).map catA).sum) 8 then (bif (st.drop b).all (okVA A.length) then
    (fun (as : List AV) => bif isClsA me as A then (match aCutZ A as with
    | none => false
    | some I => callCt k pc a (as.map (mpV (fun j => ixA j I))) (aSubZ A I) (prIn I pr) (st.drop b) lv A pr nx tab fs ca cb I env) else false) ((st.take b).reverse) else false) else false) else false) else false
abbrev FN : Type := Option AV → AH → List PD → Tb → List Ln → Nat → Nat → Bool
noncomputable def g6 (fin : FN) (i : Instr) (st : List AV) (A : AH) (pr : List PD) (tab : Tb) (fs : List Ln) (ca cb : Nat) : Bool := match i with
  | .ireturn => match st with
    | [.inl (false, e)] => fin (some (.inl (false, e))) A pr tab fs ca cb
    | _ => false
  | .lreturn => match st with
    | [.inl (true, e)] => fin (some (.inl (true, e))) A pr tab fs ca cb
    | _ => false
  | .return_ => match st with
    | [] => fin none A pr tab fs ca cb
    | _ => false
  | _ => false
noncomputable def st0 (i : Instr) (n a : Nat) (k : KK) (st : List AV) (lv : AL) (A : AH) (pr : List PD) (nx : Nat) (tab : Tb) (fs : List Ln) (ca cb : Nat) : Bool := match g0 i a tab fs lv st with
  | some (rest, r) => pushR nx tab fs r (fun nx tab fs v => k n (v :: rest) lv A pr nx tab fs ca cb)
  | none => false
noncomputable def st1 (i : Instr) (n nL : Nat) (k : KK) (st : List AV) (lv : AL) (A : AH) (pr : List PD) (nx : Nat) (tab : Tb) (fs : List Ln) (ca cb : Nat) : Bool := match i with
  | .iinc x m => (match alGet x lv with
    | some (.inl (false, e)) => bif Nat.blt x nL then (bif leI lo32 m then (bif leI m hi32 then pushR nx tab fs (.inr (false, fitIF tab fs (pluL e m))) (fun nx tab fs v => k n st ((x, v) :: alDel false x lv) A pr nx tab fs ca cb) else false) else false) else false
    | _ => false)
  | _ => match g1 i nL A.length st lv with
    | some (rest, lv') => k n rest lv' A pr nx tab fs ca cb
    | none => false
/-- an element that is told -/
noncomputable def findE_a0 :=
  fun (ih : Option Ln) (v_2989 : Ln) (tab : Tb) (fs : List Ln) (e : Ln) (e_2987 : Ln) => ((Bool.rec (motive := fun _ => Option Ln) (ih) (some v_2989) (eqL tab fs e e_2987)) : Option Ln)
noncomputable def findE_a1 :=
  fun (ih : Option Ln) (v_2989 : Ln) (tab : Tb) (fs : List Ln) (e : Ln) (e_2987 : Ln) (q : Nat) (q_2983 : Nat) => ((Bool.rec (motive := fun _ => Option Ln) (ih) (findE_a0 ih v_2989 tab fs e e_2987) (Nat.beq q q_2983)) : Option Ln)
noncomputable def findE (tab : Tb) (fs : List Ln) (q : Nat) (e : Ln) : List PD → Option Ln :=
  fun e_0 => List.rec (motive := fun _ => Option Ln) none (fun h_0 t_0 ih => (Bool.rec (motive := fun _ => Option Ln) (ih) (List.rec (motive := fun _ => Option Ln) (ih) (fun q_2983 x_2984 _ => (List.rec (motive := fun _ => Option Ln) (List.rec (motive := fun _ => Option Ln) (ih) (fun e_2987 x_2988 _ => (List.rec (motive := fun _ => Option Ln) (ih) (fun v_2989 x_2990 _ => (List.rec (motive := fun _ => Option Ln) (findE_a1 ih v_2989 tab fs e e_2987 q q_2983) (fun x_2991 x_2992 _ => (ih)) x_2990)) x_2988)) h_0.2.2) (fun x_2985 x_2986 _ => (ih)) x_2984)) h_0.2.1) (Nat.beq h_0.1 (nat_lit 7)))) e_0 
theorem findE_def (tab : Tb) (fs : List Ln) (q : Nat) (e : Ln) (e_0 : List PD) : findE tab fs q e e_0 = (match e_0 with
  | [] => none
  | p :: r => bif Nat.beq p.1 7 then (match p.2.1, p.2.2 with
    | [q'], [e', v] => bif Nat.beq q q' then (bif eqL tab fs e e' then some v else findE tab fs q e r) else findE tab fs q e r
    | _, _ => findE tab fs q e r) else findE tab fs q e r) := by
  cases e_0 with
  | nil =>
    show none = _
    try simp only [iAddQ_eq, iMulQ_eq, iNegQ_eq, lenQ_eq, nthQ_eq, setQ_eq, appQ_eq, mapQ_eq, allQ_eq, anyQ_eq, dropQ_eq, takeQ_eq, revQ_eq, getDQ_eq, optLQ_eq, brecC]
    all_goals rfl
  | cons h_0 t_0 =>
    show (Bool.rec (motive := fun _ => Option Ln) (findE tab fs q e t_0) (List.rec (motive := fun _ => Option Ln) (findE tab fs q e t_0) (fun q_2993 x_2994 _ => (List.rec (motive := fun _ => Option Ln) (List.rec (motive := fun _ => Option Ln) (findE tab fs q e t_0) (fun e_2997 x_2998 _ => (List.rec (motive := fun _ => Option Ln) (findE tab fs q e t_0) (fun v_2999 x_3000 _ => (List.rec (motive := fun _ => Option Ln) (Bool.rec (motive := fun _ => Option Ln) (findE tab fs q e t_0) (Bool.rec (motive := fun _ => Option Ln) (findE tab fs q e t_0) (some v_2999) (eqL tab fs e e_2997)) (Nat.beq q q_2993)) (fun x_3001 x_3002 _ => (findE tab fs q e t_0)) x_3000)) x_2998)) h_0.2.2) (fun x_2995 x_2996 _ => (findE tab fs q e t_0)) x_2994)) h_0.2.1) (Nat.beq h_0.1 (nat_lit 7))) = _
    try simp only [iAddQ_eq, iMulQ_eq, iNegQ_eq, lenQ_eq, nthQ_eq, setQ_eq, appQ_eq, mapQ_eq, allQ_eq, anyQ_eq, dropQ_eq, takeQ_eq, revQ_eq, getDQ_eq, optLQ_eq, brecC]
    all_goals
      cases hq_1 : (Nat.beq h_0.1 7) with
      | false =>
        try dsimp only [cond_false, cond_true]
        all_goals rfl
      | true =>
        try dsimp only [cond_false, cond_true]
        all_goals
          cases hq_2 : h_0.2.1 with
          | nil =>
            try dsimp only [cond_false, cond_true]
            all_goals rfl
          | cons y_3003 y_3004 =>
            try dsimp only [cond_false, cond_true]
            all_goals
              cases y_3004 with
              | nil =>
                try dsimp only [cond_false, cond_true]
                all_goals
                  cases hq_4 : h_0.2.2 with
                  | nil =>
                    try dsimp only [cond_false, cond_true]
                    all_goals rfl
                  | cons y_3005 y_3006 =>
                    try dsimp only [cond_false, cond_true]
                    all_goals
                      cases y_3006 with
                      | nil =>
                        try dsimp only [cond_false, cond_true]
                        all_goals rfl
                      | cons y_3007 y_3008 =>
                        try dsimp only [cond_false, cond_true]
                        all_goals
                          cases y_3008 with
                          | nil =>
                            try dsimp only [cond_false, cond_true]
                            all_goals
                              cases hq_7 : (Nat.beq q y_3003) with
                              | false =>
                                try dsimp only [cond_false, cond_true]
                                all_goals rfl
                              | true =>
                                try dsimp only [cond_false, cond_true]
                                all_goals
                                  cases hq_8 : (eqL tab fs e y_3005) with
                                  | false =>
                                    try dsimp only [cond_false, cond_true]
                                    all_goals rfl
                                  | true =>
                                    try dsimp only [cond_false, cond_true]
                                    all_goals rfl
                          | cons y_3009 y_3010 =>
                            try dsimp only [cond_false, cond_true]
                            all_goals rfl
              | cons y_3011 y_3012 =>
                try dsimp only [cond_false, cond_true]
                all_goals rfl
noncomputable def prLd_a0 :=
  fun (r_3044 : List AV) (v_3057 : Ln) => ((some (r_3044, (.inl (.inl (false, v_3057))))) : Option SV)
noncomputable def prLd_a1 :=
  fun (r_3044 : List AV) (v_3057 : Ln) (u_3060 : Nat) s_3055 => ((Bool.rec (motive := fun _ => Option SV) none (prLd_a0 r_3044 v_3057) (Nat.blt u_3060 (sgLen s_3055))) : Option SV)
noncomputable def prLd (tab : Tb) (fs : List Ln) (A : AH) (pr : List PD) (st : List AV) : Option SV :=
  (List.rec (motive := fun _ => Option SV) none (fun x_3037 x_3038 _ => (Sum.rec (motive := fun _ => Option SV) (fun x_3039 => (Prod.rec (motive := fun _ => Option SV) (fun x_3041 e_3042 => (Bool.rec (motive := fun _ => Option SV) (List.rec (motive := fun _ => Option SV) none (fun x_3043 r_3044 _ => (Sum.rec (motive := fun _ => Option SV) (fun x_3045 => none) (fun x_3046 => (Sum.rec (motive := fun _ => Option SV) (fun x_3047 => (Option.rec (motive := fun _ => Option SV) none (fun q_3049 => (Option.rec (motive := fun _ => Option SV) none (fun x_3050 => (Sum.rec (motive := fun _ => Option SV) (fun x_3051 => none) (fun x_3052 => (Prod.rec (motive := fun _ => Option SV) (fun k_3053 x_3054 => (Sum.rec (motive := fun _ => Option SV) (fun s_3055 => (Bool.rec (motive := fun _ => Option SV) none (Option.rec (motive := fun _ => Option SV) none (fun v_3057 => (Option.rec (motive := fun _ => Option SV) none (fun x_3058 => (Prod.rec (motive := fun _ => Option SV) (fun x_3059 u_3060 => (prLd_a1 r_3044 v_3057 u_3060 s_3055)) x_3058)) (idxR tab fs e_3042))) (findE tab fs q_3049 e_3042 pr)) (Nat.beq k_3053 (nat_lit 0)))) (fun x_3056 => none) x_3054)) x_3052)) x_3050)) (nthQ A q_3049))) x_3047)) (fun x_3048 => none) x_3046)) x_3043)) x_3038) none x_3041)) x_3039)) (fun x_3040 => none) x_3037)) st)
theorem prLd_def (tab : Tb) (fs : List Ln) (A : AH) (pr : List PD) (st : List AV) : prLd tab fs A pr st = (match st with
  | .inl (false, e) :: .inr (.inl (some q)) :: r => (match A[q]? with
    | some (.inr (k, .inl s)) => bif Nat.beq k 0 then (match findE tab fs q e pr with
      | some v => (match idxR tab fs e with
        | some (_, u) => bif Nat.blt u (sgLen s) then some (r, .inl (.inl (false, v))) else none
        | none => none)
      | none => none) else none
    | _ => none)
  | _ => none) := by
  show (List.rec (motive := fun _ => Option SV) none (fun x_3013 x_3014 _ => (Sum.rec (motive := fun _ => Option SV) (fun x_3015 => (Prod.rec (motive := fun _ => Option SV) (fun x_3017 e_3018 => (Bool.rec (motive := fun _ => Option SV) (List.rec (motive := fun _ => Option SV) none (fun x_3019 r_3020 _ => (Sum.rec (motive := fun _ => Option SV) (fun x_3021 => none) (fun x_3022 => (Sum.rec (motive := fun _ => Option SV) (fun x_3023 => (Option.rec (motive := fun _ => Option SV) none (fun q_3025 => (Option.rec (motive := fun _ => Option SV) none (fun x_3026 => (Sum.rec (motive := fun _ => Option SV) (fun x_3027 => none) (fun x_3028 => (Prod.rec (motive := fun _ => Option SV) (fun k_3029 x_3030 => (Sum.rec (motive := fun _ => Option SV) (fun s_3031 => (Bool.rec (motive := fun _ => Option SV) none (Option.rec (motive := fun _ => Option SV) none (fun v_3033 => (Option.rec (motive := fun _ => Option SV) none (fun x_3034 => (Prod.rec (motive := fun _ => Option SV) (fun x_3035 u_3036 => (Bool.rec (motive := fun _ => Option SV) none (some (r_3020, (.inl (.inl (false, v_3033))))) (Nat.blt u_3036 (sgLen s_3031)))) x_3034)) (idxR tab fs e_3018))) (findE tab fs q_3025 e_3018 pr)) (Nat.beq k_3029 (nat_lit 0)))) (fun x_3032 => none) x_3030)) x_3028)) x_3026)) (nthQ A q_3025))) x_3023)) (fun x_3024 => none) x_3022)) x_3019)) x_3014) none x_3017)) x_3015)) (fun x_3016 => none) x_3013)) st) = _
  try simp only [iAddQ_eq, iMulQ_eq, iNegQ_eq, lenQ_eq, nthQ_eq, setQ_eq, appQ_eq, mapQ_eq, allQ_eq, anyQ_eq, dropQ_eq, takeQ_eq, revQ_eq, getDQ_eq, optLQ_eq, brecC]
  all_goals
    cases st with
    | nil =>
      try dsimp only [cond_false, cond_true]
      all_goals rfl
    | cons y_3061 y_3062 =>
      try dsimp only [cond_false, cond_true]
      all_goals
        cases y_3061 with
        | inl y_3063 =>
          try dsimp only [cond_false, cond_true]
          all_goals
            cases y_3063 with
            | mk y_3064 y_3065 =>
              try dsimp only [cond_false, cond_true]
              all_goals
                cases y_3064 with
                | false =>
                  try dsimp only [cond_false, cond_true]
                  all_goals
                    cases y_3062 with
                    | nil =>
                      try dsimp only [cond_false, cond_true]
                      all_goals rfl
                    | cons y_3066 y_3067 =>
                      try dsimp only [cond_false, cond_true]
                      all_goals
                        cases y_3066 with
                        | inl y_3068 =>
                          try dsimp only [cond_false, cond_true]
                          all_goals rfl
                        | inr y_3069 =>
                          try dsimp only [cond_false, cond_true]
                          all_goals
                            cases y_3069 with
                            | inl y_3070 =>
                              try dsimp only [cond_false, cond_true]
                              all_goals
                                cases y_3070 with
                                | none =>
                                  try dsimp only [cond_false, cond_true]
                                  all_goals rfl
                                | some y_3071 =>
                                  try dsimp only [cond_false, cond_true]
                                  all_goals
                                    cases hq_9 : A[y_3071]? with
                                    | none =>
                                      try dsimp only [cond_false, cond_true]
                                      all_goals rfl
                                    | some y_3072 =>
                                      try dsimp only [cond_false, cond_true]
                                      all_goals
                                        cases y_3072 with
                                        | inl y_3073 =>
                                          try dsimp only [cond_false, cond_true]
                                          all_goals rfl
                                        | inr y_3074 =>
                                          try dsimp only [cond_false, cond_true]
                                          all_goals
                                            cases y_3074 with
                                            | mk y_3075 y_3076 =>
                                              try dsimp only [cond_false, cond_true]
                                              all_goals
                                                cases y_3076 with
                                                | inl y_3077 =>
                                                  try dsimp only [cond_false, cond_true]
                                                  all_goals
                                                    cases hq_13 : (Nat.beq y_3075 0) with
                                                    | false =>
                                                      try dsimp only [cond_false, cond_true]
                                                      all_goals rfl
                                                    | true =>
                                                      try dsimp only [cond_false, cond_true]
                                                      all_goals
                                                        cases hq_14 : (findE tab fs y_3071 y_3065 pr) with
                                                        | none =>
                                                          try dsimp only [cond_false, cond_true]
                                                          all_goals rfl
                                                        | some y_3078 =>
                                                          try dsimp only [cond_false, cond_true]
                                                          all_goals
                                                            cases hq_15 : (idxR tab fs y_3065) with
                                                            | none =>
                                                              try dsimp only [cond_false, cond_true]
                                                              all_goals rfl
                                                            | some y_3079 =>
                                                              try dsimp only [cond_false, cond_true]
                                                              all_goals
                                                                cases y_3079 with
                                                                | mk y_3080 y_3081 =>
                                                                  try dsimp only [cond_false, cond_true]
                                                                  all_goals
                                                                    cases hq_17 : (Nat.blt y_3081 ((sgLen y_3077))) with
                                                                    | false =>
                                                                      try dsimp only [cond_false, cond_true]
                                                                      all_goals rfl
                                                                    | true =>
                                                                      try dsimp only [cond_false, cond_true]
                                                                      all_goals rfl
                                                | inr y_3082 =>
                                                  try dsimp only [cond_false, cond_true]
                                                  all_goals rfl
                            | inr y_3083 =>
                              try dsimp only [cond_false, cond_true]
                              all_goals rfl
                | true =>
                  try dsimp only [cond_false, cond_true]
                  all_goals rfl
        | inr y_3084 =>
          try dsimp only [cond_false, cond_true]
          all_goals rfl
noncomputable def st3g (scl : Option SL) (i : Instr) (n a b : Nat) (k : KK) (st : List AV) (lv : AL) (A : AH) (pr : List PD) (nx : Nat) (tab : Tb) (fs : List Ln) (ca cb : Nat) : Bool := match g3 scl i a b tab fs A st with
  | some (rest, r) => pushR nx tab fs r (fun nx tab fs v => k n (v :: rest) lv A pr nx tab fs ca cb)
  | none => false
noncomputable def st3l (scl : Option SL) (n a b : Nat) (k : KK) (st : List AV) (lv : AL) (A : AH) (pr : List PD) (nx : Nat) (tab : Tb) (fs : List Ln) (ca cb : Nat) : Bool := match scl with
  | none => (match prLd tab fs A pr st with
    | some (rest, r) => pushR nx tab fs r (fun nx tab fs v => k n (v :: rest) lv A pr nx tab fs ca cb)
    | none => st3g none .iaload n a b k st lv A pr nx tab fs ca cb)
  | some s => st3g (some s) .iaload n a b k st lv A pr nx tab fs ca cb
noncomputable def st3 (scl : Option SL) (i : Instr) (n a b : Nat) (k : KK) (st : List AV) (lv : AL) (A : AH) (pr : List PD) (nx : Nat) (tab : Tb) (fs : List Ln) (ca cb : Nat) : Bool := match i with
  | .aaload => aaL (fun st tab fs => k n st lv A pr nx tab fs ca cb) tab fs A st
  | .iaload => st3l scl n a b k st lv A pr nx tab fs ca cb
  | i => st3g scl i n a b k st lv A pr nx tab fs ca cb
noncomputable def st4 (ini : Bool) (o : Nat) (i : Instr) (n a b : Nat) (k : KK) (st : List AV) (lv : AL) (A : AH) (pr : List PD) (nx : Nat) (tab : Tb) (fs : List Ln) (ca cb : Nat) : Bool := match g4 ini o i a b tab fs A pr st with
  | some (rest, A', pr') => k n rest lv A' pr' nx tab fs ca cb
  | none => false
noncomputable def step (scl : Option SL) (ini : Bool) (o nL : Nat) (env : List Ct) (fin : FN) (k : KK) (e : XE) (pc : Nat) (st : List AV) (lv : AL) (A : AH) (pr : List PD) (nx : Nat) (tab : Tb) (fs : List Ln) (ca cb : Nat) : Bool := match e with
  | (i, len, g, a, b, _) => match g with
    | 0 => st0 i (Nat.add pc len) a k st lv A pr nx tab fs ca cb
    | 1 => st1 i (Nat.add pc len) nL k st lv A pr nx tab fs ca cb
    | 2 => g2 (fun t st tab fs => k t st lv A pr nx tab fs ca cb) i pc tab fs st
    | 3 => st3 scl i (Nat.add pc len) a b k st lv A pr nx tab fs ca cb
    | 4 => st4 ini o i (Nat.add pc len) a b k st lv A pr nx tab fs ca cb
    | 5 => match g5 i a tab fs A st with
      | some (rest, A', dc, ds) => bif prB A.length pr then k (Nat.add pc len) rest lv A' pr nx tab fs (Nat.add ca dc) (Nat.add cb ds) else false
      | none => false
    | 6 => g6 fin i st A pr tab fs ca cb
    | 7 => g7 env k i a b pc st lv A pr nx tab fs ca cb
    | _ => false
/-- a hint: at a place, the states that together cover this one (the machine's state stays) -/
abbrev HR : Type := AH × List PD × Nat × Tb × List Ln
abbrev HF : Type := Nat → AL → AH → List PD → Nat → Tb → List Ln → Option (List HR)
/-- a macro: many steps of the machine at once -/
abbrev MR : Type := Nat × List AV × AL × AH × List PD × Nat × Tb × List Ln
abbrev MC : Type := Nat → List (List (Option XE)) → Nat → List AV → AL → AH → List PD → Nat → Tb → List Ln → Option MR
/-- hints, macros, where points are (a bit a place), where hints and macros are, how many symbols stay the entry's -/
abbrev HN : Type := HF × MC × Nat × Nat × Nat
noncomputable def isPt (m pc : Nat) : Bool :=
  (Nat.beq (Nat.land (Nat.shiftRight m pc) (nat_lit 1)) (nat_lit 1))
theorem isPt_def (m pc : Nat) : isPt m pc = Nat.beq (Nat.land (Nat.shiftRight m pc) 1) 1 := by
  show (Nat.beq (Nat.land (Nat.shiftRight m pc) (nat_lit 1)) (nat_lit 1)) = _
  all_goals rfl
noncomputable def noF : HF := fun _ _ _ _ _ _ _ => none
noncomputable def noM : MC := fun _ _ _ _ _ _ _ _ _ _ => none
noncomputable def noH : HN := (noF, noM, 0, 0, 0)
noncomputable def macAt (scl : Option SL) (mc : MC) (nL : Nat) (tb : List (List (Option XE))) (pc : Nat) (st : List AV) (lv : AL) (A : AH) (pr : List PD) (nx : Nat) (tab : Tb) (fs : List Ln) : Option MR := match scl with
  | none => mc nL tb pc st lv A pr nx tab fs
  | some _ => none
noncomputable def macG_a0 :=
  fun (scl : Option SL) (mc : MC) (nL : Nat) (tb : List (List (Option XE))) (pc : Nat) (st : List AV) (lv : AL) (A : AH) (pr : List PD) (nx : Nat) (tab : Tb) (fs : List Ln) => ((macAt scl mc nL tb pc st lv A pr nx tab fs) : Option MR)
noncomputable def macG (m : Nat) (scl : Option SL) (mc : MC) (nL : Nat) (tb : List (List (Option XE))) (pc : Nat) (st : List AV) (lv : AL) (A : AH) (pr : List PD) (nx : Nat) (tab : Tb) (fs : List Ln) : Option MR :=
  (Bool.rec (motive := fun _ => Option MR) none (macG_a0 scl mc nL tb pc st lv A pr nx tab fs) (isPt m pc))
theorem macG_def (m : Nat) (scl : Option SL) (mc : MC) (nL : Nat) (tb : List (List (Option XE))) (pc : Nat) (st : List AV) (lv : AL) (A : AH) (pr : List PD) (nx : Nat) (tab : Tb) (fs : List Ln) : macG m scl mc nL tb pc st lv A pr nx tab fs = bif isPt m pc then macAt scl mc nL tb pc st lv A pr nx tab fs else none := by
  show (Bool.rec (motive := fun _ => Option MR) none (macAt scl mc nL tb pc st lv A pr nx tab fs) (isPt m pc)) = _
  try simp only [iAddQ_eq, iMulQ_eq, iNegQ_eq, lenQ_eq, nthQ_eq, setQ_eq, appQ_eq, mapQ_eq, allQ_eq, anyQ_eq, dropQ_eq, takeQ_eq, revQ_eq, getDQ_eq, optLQ_eq, brecC]
  all_goals
    cases hq_1 : (isPt m pc) with
    | false =>
      try dsimp only [cond_false, cond_true]
      all_goals rfl
    | true =>
      try dsimp only [cond_false, cond_true]
      all_goals rfl
noncomputable def hinG (m : Nat) (f : HF) (pc : Nat) (lv : AL) (A : AH) (pr : List PD) (nx : Nat) (tab : Tb) (fs : List Ln) : Option (List HR) :=
  (Bool.rec (motive := fun _ => Option (List HR)) none (f pc lv A pr nx tab fs) (isPt m pc))
theorem hinG_def (m : Nat) (f : HF) (pc : Nat) (lv : AL) (A : AH) (pr : List PD) (nx : Nat) (tab : Tb) (fs : List Ln) : hinG m f pc lv A pr nx tab fs = bif isPt m pc then f pc lv A pr nx tab fs else none := by
  show (Bool.rec (motive := fun _ => Option (List HR)) none (f pc lv A pr nx tab fs) (isPt m pc)) = _
  try simp only [iAddQ_eq, iMulQ_eq, iNegQ_eq, lenQ_eq, nthQ_eq, setQ_eq, appQ_eq, mapQ_eq, allQ_eq, anyQ_eq, dropQ_eq, takeQ_eq, revQ_eq, getDQ_eq, optLQ_eq, brecC]
  all_goals
    cases hq_1 : (isPt m pc) with
    | false =>
      try dsimp only [cond_false, cond_true]
      all_goals rfl
    | true =>
      try dsimp only [cond_false, cond_true]
      all_goals rfl
noncomputable def hAll_a0 :=
  fun (ih : Bool) (k : AH → List PD → Nat → Tb → List Ln → Bool) (A_3085 : AH) (pr_3087 : List PD) (nx_3089 : Nat) (tab_3091 : Tb) (fs_3092 : List Ln) => ((Bool.rec (motive := fun _ => Bool) false (ih) (k A_3085 pr_3087 nx_3089 tab_3091 fs_3092)) : Bool)
noncomputable def hAll (k : AH → List PD → Nat → Tb → List Ln → Bool) : List HR → Bool :=
  fun e_0 => List.rec (motive := fun _ => Bool) true (fun h_0 t_0 ih => (Prod.rec (motive := fun _ => Bool) (fun A_3085 x_3086 => (Prod.rec (motive := fun _ => Bool) (fun pr_3087 x_3088 => (Prod.rec (motive := fun _ => Bool) (fun nx_3089 x_3090 => (Prod.rec (motive := fun _ => Bool) (fun tab_3091 fs_3092 => (hAll_a0 ih k A_3085 pr_3087 nx_3089 tab_3091 fs_3092)) x_3090)) x_3088)) x_3086)) h_0)) e_0 
theorem hAll_def (k : AH → List PD → Nat → Tb → List Ln → Bool) (e_0 : List HR) : hAll k e_0 = (match e_0 with
  | [] => true
  | (A, pr, nx, tab, fs) :: r => bif k A pr nx tab fs then hAll k r else false) := by
  cases e_0 with
  | nil =>
    show true = _
    try simp only [iAddQ_eq, iMulQ_eq, iNegQ_eq, lenQ_eq, nthQ_eq, setQ_eq, appQ_eq, mapQ_eq, allQ_eq, anyQ_eq, dropQ_eq, takeQ_eq, revQ_eq, getDQ_eq, optLQ_eq, brecC]
    all_goals rfl
  | cons h_0 t_0 =>
    show (Prod.rec (motive := fun _ => Bool) (fun A_3093 x_3094 => (Prod.rec (motive := fun _ => Bool) (fun pr_3095 x_3096 => (Prod.rec (motive := fun _ => Bool) (fun nx_3097 x_3098 => (Prod.rec (motive := fun _ => Bool) (fun tab_3099 fs_3100 => (Bool.rec (motive := fun _ => Bool) false (hAll k t_0) (k A_3093 pr_3095 nx_3097 tab_3099 fs_3100))) x_3098)) x_3096)) x_3094)) h_0) = _
    try simp only [iAddQ_eq, iMulQ_eq, iNegQ_eq, lenQ_eq, nthQ_eq, setQ_eq, appQ_eq, mapQ_eq, allQ_eq, anyQ_eq, dropQ_eq, takeQ_eq, revQ_eq, getDQ_eq, optLQ_eq, brecC]
    all_goals
      cases h_0 with
      | mk y_3101 y_3102 =>
        try dsimp only [cond_false, cond_true]
        all_goals
          cases y_3102 with
          | mk y_3103 y_3104 =>
            try dsimp only [cond_false, cond_true]
            all_goals
              cases y_3104 with
              | mk y_3105 y_3106 =>
                try dsimp only [cond_false, cond_true]
                all_goals
                  cases y_3106 with
                  | mk y_3107 y_3108 =>
                    try dsimp only [cond_false, cond_true]
                    all_goals
                      cases hq_5 : (k y_3101 y_3103 y_3105 y_3107 y_3108) with
                      | false =>
                        try dsimp only [cond_false, cond_true]
                        all_goals rfl
                      | true =>
                        try dsimp only [cond_false, cond_true]
                        all_goals rfl
noncomputable def go (scl : Option SL) (ini : Bool) (o nL : Nat) (tb : List (List (Option XE))) (env : List Ct) (pts : List PE) (G : List Ln) (rk : Option Ln) (fin : FN) (hn : HN) : Nat → Bool → KK
  | 0, _ => fun _ _ _ _ _ _ _ _ _ _ => false
  | n + 1, first => fun pc st lv A pr nx tab fs ca cb => bif (bif first then false else isPt hn.2.2.1 pc) then anyPt hn.2.2.2.2 G rk pc st lv A pr tab fs ca cb pts else match macG hn.2.2.2.1 scl hn.2.1 nL tb pc st lv A pr nx tab fs with
    | some (pc', st', lv', A', pr', nx', tab', fs') => go scl ini o nL tb env pts G rk fin hn n false pc' st' lv' A' pr' nx' tab' fs' ca cb
    | none => match tbGet tb pc with
      | some e => (match hinG hn.2.2.2.1 hn.1 pc lv A pr nx tab fs with
        | none => step scl ini o nL env fin (go scl ini o nL tb env pts G rk fin hn n false) e pc st lv A pr nx tab fs ca cb
        | some L => hAll (fun A pr nx tab fs => step scl ini o nL env fin (go scl ini o nL tb env pts G rk fin hn n false) e pc st lv A pr nx tab fs ca cb) L)
      | none => false
