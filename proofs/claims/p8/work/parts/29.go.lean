/-! ===== the runner: from a place on, until places that are told, or the end ===== -/
noncomputable def negC (c : Jvm.ClassFile.Cond) : Jvm.ClassFile.Cond := match c with
  | .eq => .ne
  | .ne => .eq
  | .lt => .ge
  | .ge => .lt
  | .gt => .le
  | .le => .gt
noncomputable def asm (c : Jvm.ClassFile.Cond) (tab : Tb) (fs : List Ln) (x y : Ln) : Option (Tb × List Ln) := match c with
  | .lt => addLe tab fs (pluL (subL x y) 1)
  | .ge => addLe tab fs (subL y x)
  | .gt => addLe tab fs (pluL (subL y x) 1)
  | .le => addLe tab fs (subL x y)
  | .eq => match addLe tab fs (subL x y) with
    | some (t, f) => addLe t f (subL y x)
    | none => none
  | .ne => bif le0 tab fs (subL x y) then addLe tab fs (pluL (subL x y) 1) else bif le0 tab fs (subL y x) then addLe tab fs (pluL (subL y x) 1) else some (tab, fs)
noncomputable def cndZ (c : Jvm.ClassFile.Cond) (a b : Int) : Prop := match c with
  | .lt => a < b
  | .ge => b ≤ a
  | .gt => b < a
  | .le => a ≤ b
  | .eq => a = b
  | .ne => a ≠ b
theorem asm_ok {ρ : Nat → Int} {tab : Tb} {fs : List Ln} (ht : tOk ρ tab) (hf : fOk ρ fs) {c : Jvm.ClassFile.Cond} {x y : Ln} (h : cndZ c (ev ρ x) (ev ρ y)) : ∃ tab' fs', asm c tab fs x y = some (tab', fs') ∧ tOk ρ tab' ∧ fOk ρ fs' := by
  have sub : ∀ {t : Tb} {f : List Ln} {a b : Ln}, tOk ρ t → fOk ρ f → ev ρ a ≤ ev ρ b → ∃ tab' fs', addLe t f (subL a b) = some (tab', fs') ∧ tOk ρ tab' ∧ fOk ρ fs' := fun ht hf h => addLe_ok ht hf (by rw [ev_sub]; omega)
  have sub1 : ∀ {t : Tb} {f : List Ln} {a b : Ln}, tOk ρ t → fOk ρ f → ev ρ a < ev ρ b → ∃ tab' fs', addLe t f (pluL (subL a b) 1) = some (tab', fs') ∧ tOk ρ tab' ∧ fOk ρ fs' := fun ht hf h => addLe_ok ht hf (by rw [ev_plu, ev_sub]; omega)
  cases c with
  | lt => exact sub1 ht hf h
  | ge => exact sub ht hf h
  | gt => exact sub1 ht hf h
  | le => exact sub ht hf h
  | eq =>
    have h' : ev ρ x = ev ρ y := h
    obtain ⟨t, f, e, h1, h2⟩ := sub (a := x) (b := y) ht hf (by omega)
    unfold asm
    simp only [e]
    exact sub h1 h2 (by omega)
  | ne =>
    have h' : ev ρ x ≠ ev ρ y := h
    unfold asm
    try dsimp only
    cases h1 : le0 tab fs (subL x y) with
    | true =>
      have q := le0_ok ht hf h1
      rw [ev_sub] at q
      exact sub1 ht hf (by omega)
    | false =>
      cases h2 : le0 tab fs (subL y x) with
      | true =>
        have q := le0_ok ht hf h2
        rw [ev_sub] at q
        exact sub1 ht hf (by omega)
      | false => exact ⟨tab, fs, rfl, ht, hf⟩
theorem cnd_iff {c : Jvm.ClassFile.Cond} {x y : Int32} : cnd c x y = true ↔ cndZ c x.toInt y.toInt := by
  cases c <;> simp only [cnd, cndZ, decide_eq_true_eq, Int32.lt_iff_toInt_lt, Int32.le_iff_toInt_le, Int32.toInt_inj, ne_eq]
theorem cndZ_neg {c : Jvm.ClassFile.Cond} {a b : Int} (h : ¬ cndZ c a b) : cndZ (negC c) a b := by
  cases c <;> simp only [cndZ, negC] at h ⊢ <;> omega
theorem cnd_neg {c : Jvm.ClassFile.Cond} {x y : Int32} (h : cnd c x y = false) : cndZ (negC c) x.toInt y.toInt := cndZ_neg fun q => by rw [cnd_iff.mpr q] at h; cases h
theorem cmpZ_cnd {c : Jvm.ClassFile.Cond} {a b : Int} : cndZ c (cmpZ a b).toInt (0 : Int32).toInt ↔ cndZ c a b := by
  have e0 : (0 : Int32).toInt = 0 := rfl
  have e1 : (1 : Int32).toInt = 1 := rfl
  have e2 : (-1 : Int32).toInt = -1 := rfl
  unfold cmpZ
  rw [e0]
  by_cases h1 : b < a
  · rw [if_pos h1, e1]
    cases c <;> simp only [cndZ] <;> omega
  · rw [if_neg h1]
    by_cases h2 : a = b
    · subst h2
      rw [if_pos rfl, e0]
      cases c <;> simp [cndZ]
    · rw [if_neg h2, e2]
      cases c <;> simp only [cndZ] <;> omega
noncomputable def jmpA (pc : Nat) (off : Int) : Option Nat := match Int.add (.ofNat pc) off with
  | .ofNat t => some t
  | .negSucc _ => none
theorem jmpA_ok {pc t : Nat} {off : Int} (h : jmpA pc off = some t) : jmp pc off = some t := by
  unfold jmpA at h
  split at h
  · rename_i t' he
    cases h
    have he' : (pc : Int) + off = (t : Int) := he
    unfold jmp
    rw [he', if_pos (Int.natCast_nonneg t)]
    rfl
  · cases h
-- points, contracts
abbrev PE : Type := Nat × List Nat × Pt × List Ln × Option Ln × Nat × Nat
abbrev Ot : Type := Pt × Nat × Nat
abbrev Ct : Type := Nat × Nat × Pt × List Ot
noncomputable def hasPc (pc : Nat) : List PE → Bool
  | [] => false
  | p :: r => bif Nat.beq pc p.1 then true else hasPc pc r
noncomputable def lvAt (lv : AL) : List Nat → Option (List AV) :=
  fun e_0 => List.rec (motive := fun _ => Option (List AV)) (some []) (fun h_0 t_0 ih => (Option.rec (motive := fun _ => Option (List AV)) none (fun a_2293 => (Option.rec (motive := fun _ => Option (List AV)) none (fun q_2294 => (some (a_2293 :: q_2294))) (ih))) (alGet h_0 lv))) e_0 
theorem lvAt_def (lv : AL) (e_0 : List Nat) : lvAt lv e_0 = (match e_0 with
  | [] => some []
  | k :: r => match alGet k lv with
    | some a => (match lvAt lv r with
      | some q => some (a :: q)
      | none => none)
    | none => none) := by
  cases e_0 with
  | nil =>
    show (some []) = _
    try simp only [iAddQ_eq, iMulQ_eq, iNegQ_eq, lenQ_eq, nthQ_eq, setQ_eq, appQ_eq, mapQ_eq, allQ_eq, anyQ_eq, dropQ_eq, takeQ_eq, revQ_eq, getDQ_eq, optLQ_eq, brecC]
    all_goals rfl
  | cons h_0 t_0 =>
    show (Option.rec (motive := fun _ => Option (List AV)) none (fun a_2295 => (Option.rec (motive := fun _ => Option (List AV)) none (fun q_2296 => (some (a_2295 :: q_2296))) (lvAt lv t_0))) (alGet h_0 lv)) = _
    try simp only [iAddQ_eq, iMulQ_eq, iNegQ_eq, lenQ_eq, nthQ_eq, setQ_eq, appQ_eq, mapQ_eq, allQ_eq, anyQ_eq, dropQ_eq, takeQ_eq, revQ_eq, getDQ_eq, optLQ_eq, brecC]
    all_goals
      cases hq_1 : (alGet h_0 lv) with
      | none =>
        try dsimp only [cond_false, cond_true]
        all_goals rfl
      | some y_2297 =>
        try dsimp only [cond_false, cond_true]
        all_goals
          cases hq_2 : (lvAt lv t_0) with
          | none =>
            try dsimp only [cond_false, cond_true]
            all_goals rfl
          | some y_2298 =>
            try dsimp only [cond_false, cond_true]
            all_goals rfl
noncomputable def rkLt_a0 :=
  fun (tab : Tb) (fs : List Ln) (θ : Th) (r_2301 : Ln) (q_2302 : Ln) => ((le0 tab fs (pluL (subL (sbL θ r_2301) q_2302) (.ofNat (nat_lit 1)))) : Bool)
noncomputable def rkLt (tab : Tb) (fs : List Ln) (θ : Th) (rk r : Option Ln) : Bool :=
  (Option.rec (motive := fun _ => Bool) true (fun r_2301 => (Option.rec (motive := fun _ => Bool) true (fun q_2302 => (rkLt_a0 tab fs θ r_2301 q_2302)) rk)) r)
theorem rkLt_def (tab : Tb) (fs : List Ln) (θ : Th) (rk r : Option Ln) : rkLt tab fs θ rk r = (match r with
  | none => true
  | some r => match rk with
    | none => true
    | some q => le0 tab fs (pluL (subL (sbL θ r) q) 1)) := by
  show (Option.rec (motive := fun _ => Bool) true (fun r_2299 => (Option.rec (motive := fun _ => Bool) true (fun q_2300 => (le0 tab fs (pluL (subL (sbL θ r_2299) q_2300) (.ofNat (nat_lit 1))))) rk)) r) = _
  all_goals
    cases r with
    | none =>
      try dsimp only [cond_false, cond_true]
      all_goals rfl
    | some y_2303 =>
      try dsimp only [cond_false, cond_true]
      all_goals
        cases rk with
        | none =>
          try dsimp only [cond_false, cond_true]
          all_goals rfl
        | some y_2304 =>
          try dsimp only [cond_false, cond_true]
          all_goals rfl
noncomputable def uniG  : Un → List Ln → List Ln → Un :=
  fun θ e_0 e_1 => List.rec (motive := fun _ => Un → List Ln → Un) (fun θ e_1 => θ) (fun h_0 t_0 ih θ e_1 => (List.rec (motive := fun _ => Un) θ (fun a_2305 q_2306 _ => (ih (uniL θ h_0 a_2305) q_2306)) e_1)) e_0 θ e_1
theorem uniG_def  (θ : Un) (e_0 : List Ln) (e_1 : List Ln) : uniG  θ e_0 e_1 = (match e_0, e_1 with
  | p :: r, a :: q => uniG (uniL θ p a) r q
  | _, _ => θ) := by
  cases e_0 with
  | nil =>
    show θ = _
    try simp only [iAddQ_eq, iMulQ_eq, iNegQ_eq, lenQ_eq, nthQ_eq, setQ_eq, appQ_eq, mapQ_eq, allQ_eq, anyQ_eq, dropQ_eq, takeQ_eq, revQ_eq, getDQ_eq, optLQ_eq, brecC]
    all_goals rfl
  | cons h_0 t_0 =>
    show (List.rec (motive := fun _ => Un) θ (fun a_2307 q_2308 _ => (uniG (uniL θ h_0 a_2307) t_0 q_2308)) e_1) = _
    try simp only [iAddQ_eq, iMulQ_eq, iNegQ_eq, lenQ_eq, nthQ_eq, setQ_eq, appQ_eq, mapQ_eq, allQ_eq, anyQ_eq, dropQ_eq, takeQ_eq, revQ_eq, getDQ_eq, optLQ_eq, brecC]
    all_goals
      cases e_1 with
      | nil =>
        try dsimp only [cond_false, cond_true]
        all_goals rfl
      | cons y_2309 y_2310 =>
        try dsimp only [cond_false, cond_true]
        all_goals rfl
noncomputable def chkG_a0 :=
  fun (ih : List Ln → Bool) (q_2314 : List Ln) (tab : Tb) (fs : List Ln) (θ : Th) (h_0 : Ln) (a_2313 : Ln) => ((Bool.rec (motive := fun _ => Bool) false (ih q_2314) (eqL tab fs (sbL θ h_0) a_2313)) : Bool)
noncomputable def chkG (tab : Tb) (fs : List Ln) (θ : Th) : List Ln → List Ln → Bool :=
  fun e_0 e_1 => List.rec (motive := fun _ => List Ln → Bool) (fun e_1 => (List.rec (motive := fun _ => Bool) true (fun x_2311 x_2312 _ => false) e_1)) (fun h_0 t_0 ih e_1 => (List.rec (motive := fun _ => Bool) false (fun a_2313 q_2314 _ => (chkG_a0 ih q_2314 tab fs θ h_0 a_2313)) e_1)) e_0 e_1
theorem chkG_def (tab : Tb) (fs : List Ln) (θ : Th) (e_0 : List Ln) (e_1 : List Ln) : chkG tab fs θ e_0 e_1 = (match e_0, e_1 with
  | [], [] => true
  | p :: r, a :: q => bif eqL tab fs (sbL θ p) a then chkG tab fs θ r q else false
  | _, _ => false) := by
  cases e_0 with
  | nil =>
    show (List.rec (motive := fun _ => Bool) true (fun x_2315 x_2316 _ => false) e_1) = _
    try simp only [iAddQ_eq, iMulQ_eq, iNegQ_eq, lenQ_eq, nthQ_eq, setQ_eq, appQ_eq, mapQ_eq, allQ_eq, anyQ_eq, dropQ_eq, takeQ_eq, revQ_eq, getDQ_eq, optLQ_eq, brecC]
    all_goals
      cases e_1 with
      | nil =>
        try dsimp only [cond_false, cond_true]
        all_goals rfl
      | cons y_2317 y_2318 =>
        try dsimp only [cond_false, cond_true]
        all_goals rfl
  | cons h_0 t_0 =>
    show (List.rec (motive := fun _ => Bool) false (fun a_2319 q_2320 _ => (Bool.rec (motive := fun _ => Bool) false (chkG tab fs θ t_0 q_2320) (eqL tab fs (sbL θ h_0) a_2319))) e_1) = _
    try simp only [iAddQ_eq, iMulQ_eq, iNegQ_eq, lenQ_eq, nthQ_eq, setQ_eq, appQ_eq, mapQ_eq, allQ_eq, anyQ_eq, dropQ_eq, takeQ_eq, revQ_eq, getDQ_eq, optLQ_eq, brecC]
    all_goals
      cases e_1 with
      | nil =>
        try dsimp only [cond_false, cond_true]
        all_goals rfl
      | cons y_2321 y_2322 =>
        try dsimp only [cond_false, cond_true]
        all_goals
          cases hq_3 : (eqL tab fs ((sbL θ h_0)) y_2321) with
          | false =>
            try dsimp only [cond_false, cond_true]
            all_goals rfl
          | true =>
            try dsimp only [cond_false, cond_true]
            all_goals rfl
/-- the numbers carried along: the same symbols, or found equal -/
noncomputable def chkGR (n : Nat) (tab : Tb) (fs : List Ln) (θ : Th) (P G : List Ln) : Bool :=
  (Bool.rec (motive := fun _ => Bool) (chkG tab fs θ P G) true (Bool.rec (motive := fun _ => Bool) false (isSy n (nat_lit 0) G) (isSy n (nat_lit 0) P)))
theorem chkGR_def (n : Nat) (tab : Tb) (fs : List Ln) (θ : Th) (P G : List Ln) : chkGR n tab fs θ P G = bif (bif isSy n 0 P then isSy n 0 G else false) then true else chkG tab fs θ P G := by
  show (Bool.rec (motive := fun _ => Bool) (chkG tab fs θ P G) true (Bool.rec (motive := fun _ => Bool) false (isSy n (nat_lit 0) G) (isSy n (nat_lit 0) P))) = _
  try simp only [iAddQ_eq, iMulQ_eq, iNegQ_eq, lenQ_eq, nthQ_eq, setQ_eq, appQ_eq, mapQ_eq, allQ_eq, anyQ_eq, dropQ_eq, takeQ_eq, revQ_eq, getDQ_eq, optLQ_eq, brecC]
  all_goals
    cases hq_1 : ((bif (isSy n 0 P) then (isSy n 0 G) else false)) with
    | false =>
      try dsimp only [cond_false, cond_true]
      all_goals rfl
    | true =>
      try dsimp only [cond_false, cond_true]
      all_goals rfl
noncomputable def onePt_a0 :=
  fun (cb : Nat) (p : PE) (ca : Nat) => ((Bool.rec (motive := fun _ => Bool) false (Nat.ble cb p.2.2.2.2.2.2) (Nat.ble ca p.2.2.2.2.2.1)) : Bool)
noncomputable def onePt_a1 :=
  fun (cb : Nat) (p : PE) (ca : Nat) (tab : Tb) (fs : List Ln) (θ : Th) (rk : Option Ln) => ((Bool.rec (motive := fun _ => Bool) false (onePt_a0 cb p ca) (rkLt tab fs θ rk p.2.2.2.2.1)) : Bool)
noncomputable def onePt_a2 :=
  fun (cb : Nat) (p : PE) (ca : Nat) (tab : Tb) (fs : List Ln) (θ : Th) (rk : Option Ln) (n : Nat) (vs : List AV) (A : AH) (pr : List PD) => ((Bool.rec (motive := fun _ => Bool) false (onePt_a1 cb p ca tab fs θ rk) (instPR n tab fs θ p.2.2.1 vs A pr)) : Bool)
noncomputable def onePt (n : Nat) (G : List Ln) (rk : Option Ln) (A : AH) (pr : List PD) (tab : Tb) (fs : List Ln) (ca cb : Nat) (p : PE) (vs : List AV) (θ : Th) : Bool :=
  (Bool.rec (motive := fun _ => Bool) false (onePt_a2 cb p ca tab fs θ rk n vs A pr) (chkGR n tab fs θ p.2.2.2.1 G))
theorem onePt_def (n : Nat) (G : List Ln) (rk : Option Ln) (A : AH) (pr : List PD) (tab : Tb) (fs : List Ln) (ca cb : Nat) (p : PE) (vs : List AV) (θ : Th) : onePt n G rk A pr tab fs ca cb p vs θ = bif chkGR n tab fs θ p.2.2.2.1 G then (bif instPR n tab fs θ p.2.2.1 vs A pr then (bif rkLt tab fs θ rk p.2.2.2.2.1 then (bif Nat.ble ca p.2.2.2.2.2.1 then Nat.ble cb p.2.2.2.2.2.2 else false) else false) else false) else false := by
  show (Bool.rec (motive := fun _ => Bool) false (Bool.rec (motive := fun _ => Bool) false (Bool.rec (motive := fun _ => Bool) false (Bool.rec (motive := fun _ => Bool) false (Nat.ble cb p.2.2.2.2.2.2) (Nat.ble ca p.2.2.2.2.2.1)) (rkLt tab fs θ rk p.2.2.2.2.1)) (instPR n tab fs θ p.2.2.1 vs A pr)) (chkGR n tab fs θ p.2.2.2.1 G)) = _
  try simp only [iAddQ_eq, iMulQ_eq, iNegQ_eq, lenQ_eq, nthQ_eq, setQ_eq, appQ_eq, mapQ_eq, allQ_eq, anyQ_eq, dropQ_eq, takeQ_eq, revQ_eq, getDQ_eq, optLQ_eq, brecC]
  all_goals
    cases hq_1 : (chkGR n tab fs θ p.2.2.2.1 G) with
    | false =>
      try dsimp only [cond_false, cond_true]
      all_goals rfl
    | true =>
      try dsimp only [cond_false, cond_true]
      all_goals
        cases hq_2 : (instPR n tab fs θ p.2.2.1 vs A pr) with
        | false =>
          try dsimp only [cond_false, cond_true]
          all_goals rfl
        | true =>
          try dsimp only [cond_false, cond_true]
          all_goals
            cases hq_3 : (rkLt tab fs θ rk p.2.2.2.2.1) with
            | false =>
              try dsimp only [cond_false, cond_true]
              all_goals rfl
            | true =>
              try dsimp only [cond_false, cond_true]
              all_goals
                cases hq_4 : (Nat.ble ca p.2.2.2.2.2.1) with
                | false =>
                  try dsimp only [cond_false, cond_true]
                  all_goals rfl
                | true =>
                  try dsimp only [cond_false, cond_true]
                  all_goals rfl
noncomputable def uniGR (n : Nat) (P G : List Ln) : Un :=
  (Bool.rec (motive := fun _ => Un) (unR n) (uniG un0 P G) (Nat.beq n (nat_lit 0)))
theorem uniGR_def (n : Nat) (P G : List Ln) : uniGR n P G = bif Nat.beq n 0 then uniG un0 P G else unR n := by
  show (Bool.rec (motive := fun _ => Un) (unR n) (uniG un0 P G) (Nat.beq n (nat_lit 0))) = _
  try simp only [iAddQ_eq, iMulQ_eq, iNegQ_eq, lenQ_eq, nthQ_eq, setQ_eq, appQ_eq, mapQ_eq, allQ_eq, anyQ_eq, dropQ_eq, takeQ_eq, revQ_eq, getDQ_eq, optLQ_eq, brecC]
  all_goals
    cases hq_1 : (Nat.beq n 0) with
    | false =>
      try dsimp only [cond_false, cond_true]
      all_goals rfl
    | true =>
      try dsimp only [cond_false, cond_true]
      all_goals rfl
/-- a cheap look ahead: constants among the values -/
noncomputable def preVs_a0 :=
  fun (ih : List AV → Bool) (q_2332 : List AV) (c_2327 : Int) (c_2337 : Int) => ((Bool.rec (motive := fun _ => Bool) false (ih q_2332) (eqI c_2327 c_2337)) : Bool)
noncomputable def preVs (tab : Tb) : List AV → List AV → Bool :=
  fun e_0 e_1 => List.rec (motive := fun _ => List AV → Bool) (fun e_1 => true) (fun h_0 t_0 ih e_1 => (Sum.rec (motive := fun _ => Bool) (fun x_2323 => (Prod.rec (motive := fun _ => Bool) (fun x_2325 x_2326 => (Prod.rec (motive := fun _ => Bool) (fun c_2327 x_2328 => (List.rec (motive := fun _ => Bool) (List.rec (motive := fun _ => Bool) true (fun x_2331 q_2332 _ => (Sum.rec (motive := fun _ => Bool) (fun x_2333 => (Prod.rec (motive := fun _ => Bool) (fun x_2335 e_2336 => (Option.rec (motive := fun _ => Bool) (ih q_2332) (fun c_2337 => (preVs_a0 ih q_2332 c_2327 c_2337)) (cst tab e_2336))) x_2333)) (fun x_2334 => (ih q_2332)) x_2331)) e_1) (fun x_2329 x_2330 _ => (List.rec (motive := fun _ => Bool) true (fun x_2338 q_2339 _ => (ih q_2339)) e_1)) x_2328)) x_2326)) x_2323)) (fun x_2324 => (List.rec (motive := fun _ => Bool) true (fun x_2340 q_2341 _ => (ih q_2341)) e_1)) h_0)) e_0 e_1
theorem preVs_def (tab : Tb) (e_0 : List AV) (e_1 : List AV) : preVs tab e_0 e_1 = (match e_0, e_1 with
  | .inl (_, (c, [])) :: r, .inl (_, e) :: q => (match cst tab e with
    | some c' => bif eqI c c' then preVs tab r q else false
    | none => preVs tab r q)
  | _ :: r, _ :: q => preVs tab r q
  | _, _ => true) := by
  cases e_0 with
  | nil =>
    show true = _
    try simp only [iAddQ_eq, iMulQ_eq, iNegQ_eq, lenQ_eq, nthQ_eq, setQ_eq, appQ_eq, mapQ_eq, allQ_eq, anyQ_eq, dropQ_eq, takeQ_eq, revQ_eq, getDQ_eq, optLQ_eq, brecC]
    all_goals rfl
  | cons h_0 t_0 =>
    show (Sum.rec (motive := fun _ => Bool) (fun x_2342 => (Prod.rec (motive := fun _ => Bool) (fun x_2344 x_2345 => (Prod.rec (motive := fun _ => Bool) (fun c_2346 x_2347 => (List.rec (motive := fun _ => Bool) (List.rec (motive := fun _ => Bool) true (fun x_2350 q_2351 _ => (Sum.rec (motive := fun _ => Bool) (fun x_2352 => (Prod.rec (motive := fun _ => Bool) (fun x_2354 e_2355 => (Option.rec (motive := fun _ => Bool) (preVs tab t_0 q_2351) (fun c_2356 => (Bool.rec (motive := fun _ => Bool) false (preVs tab t_0 q_2351) (eqI c_2346 c_2356))) (cst tab e_2355))) x_2352)) (fun x_2353 => (preVs tab t_0 q_2351)) x_2350)) e_1) (fun x_2348 x_2349 _ => (List.rec (motive := fun _ => Bool) true (fun x_2357 q_2358 _ => (preVs tab t_0 q_2358)) e_1)) x_2347)) x_2345)) x_2342)) (fun x_2343 => (List.rec (motive := fun _ => Bool) true (fun x_2359 q_2360 _ => (preVs tab t_0 q_2360)) e_1)) h_0) = _
    try simp only [iAddQ_eq, iMulQ_eq, iNegQ_eq, lenQ_eq, nthQ_eq, setQ_eq, appQ_eq, mapQ_eq, allQ_eq, anyQ_eq, dropQ_eq, takeQ_eq, revQ_eq, getDQ_eq, optLQ_eq, brecC]
    all_goals
      cases h_0 with
      | inl y_2361 =>
        try dsimp only [cond_false, cond_true]
        all_goals
          cases y_2361 with
          | mk y_2362 y_2363 =>
            try dsimp only [cond_false, cond_true]
            all_goals
              cases y_2363 with
              | mk y_2364 y_2365 =>
                try dsimp only [cond_false, cond_true]
                all_goals
                  cases y_2365 with
                  | nil =>
                    try dsimp only [cond_false, cond_true]
                    all_goals
                      cases e_1 with
                      | nil =>
                        try dsimp only [cond_false, cond_true]
                        all_goals rfl
                      | cons y_2366 y_2367 =>
                        try dsimp only [cond_false, cond_true]
                        all_goals
                          cases y_2366 with
                          | inl y_2368 =>
                            try dsimp only [cond_false, cond_true]
                            all_goals
                              cases y_2368 with
                              | mk y_2369 y_2370 =>
                                try dsimp only [cond_false, cond_true]
                                all_goals
                                  cases hq_8 : (cst tab y_2370) with
                                  | none =>
                                    try dsimp only [cond_false, cond_true]
                                    all_goals rfl
                                  | some y_2371 =>
                                    try dsimp only [cond_false, cond_true]
                                    all_goals
                                      cases hq_9 : (eqI y_2364 y_2371) with
                                      | false =>
                                        try dsimp only [cond_false, cond_true]
                                        all_goals rfl
                                      | true =>
                                        try dsimp only [cond_false, cond_true]
                                        all_goals rfl
                          | inr y_2372 =>
                            try dsimp only [cond_false, cond_true]
                            all_goals rfl
                  | cons y_2373 y_2374 =>
                    try dsimp only [cond_false, cond_true]
                    all_goals
                      cases e_1 with
                      | nil =>
                        try dsimp only [cond_false, cond_true]
                        all_goals rfl
                      | cons y_2375 y_2376 =>
                        try dsimp only [cond_false, cond_true]
                        all_goals rfl
      | inr y_2377 =>
        try dsimp only [cond_false, cond_true]
        all_goals
          cases e_1 with
          | nil =>
            try dsimp only [cond_false, cond_true]
            all_goals rfl
          | cons y_2378 y_2379 =>
            try dsimp only [cond_false, cond_true]
            all_goals rfl
/-- another cheap look: as many cells, and the constants of the first one -/
noncomputable def lookC (tab : Tb) (P A : AH) : Bool :=
  (List.rec (motive := fun _ => Bool) true (fun x_2392 x_2393 _ => (Sum.rec (motive := fun _ => Bool) (fun x_2394 => (Prod.rec (motive := fun _ => Bool) (fun x_2396 p_2397 => (List.rec (motive := fun _ => Bool) true (fun x_2398 x_2399 _ => (Sum.rec (motive := fun _ => Bool) (fun x_2400 => (Prod.rec (motive := fun _ => Bool) (fun x_2402 a_2403 => (preVs tab p_2397 a_2403)) x_2400)) (fun x_2401 => true) x_2398)) A)) x_2394)) (fun x_2395 => true) x_2392)) P)
theorem lookC_def (tab : Tb) (P A : AH) : lookC tab P A = (match P, A with
  | .inl (_, p) :: _, .inl (_, a) :: _ => preVs tab p a
  | _, _ => true) := by
  show (List.rec (motive := fun _ => Bool) true (fun x_2380 x_2381 _ => (Sum.rec (motive := fun _ => Bool) (fun x_2382 => (Prod.rec (motive := fun _ => Bool) (fun x_2384 p_2385 => (List.rec (motive := fun _ => Bool) true (fun x_2386 x_2387 _ => (Sum.rec (motive := fun _ => Bool) (fun x_2388 => (Prod.rec (motive := fun _ => Bool) (fun x_2390 a_2391 => (preVs tab p_2385 a_2391)) x_2388)) (fun x_2389 => true) x_2386)) A)) x_2382)) (fun x_2383 => true) x_2380)) P) = _
  all_goals
    cases P with
    | nil =>
      try dsimp only [cond_false, cond_true]
      all_goals rfl
    | cons y_2404 y_2405 =>
      try dsimp only [cond_false, cond_true]
      all_goals
        cases y_2404 with
        | inl y_2406 =>
          try dsimp only [cond_false, cond_true]
          all_goals
            cases y_2406 with
            | mk y_2407 y_2408 =>
              try dsimp only [cond_false, cond_true]
              all_goals
                cases A with
                | nil =>
                  try dsimp only [cond_false, cond_true]
                  all_goals rfl
                | cons y_2409 y_2410 =>
                  try dsimp only [cond_false, cond_true]
                  all_goals
                    cases y_2409 with
                    | inl y_2411 =>
                      try dsimp only [cond_false, cond_true]
                      all_goals
                        cases y_2411 with
                        | mk y_2412 y_2413 =>
                          try dsimp only [cond_false, cond_true]
                          all_goals rfl
                    | inr y_2414 =>
                      try dsimp only [cond_false, cond_true]
                      all_goals rfl
        | inr y_2415 =>
          try dsimp only [cond_false, cond_true]
          all_goals rfl
noncomputable def atPt_a0 :=
  fun (n : Nat) (tab : Tb) (fs : List Ln) (pr : List PD) (p : PE) (G : List Ln) (st : List AV) (q_2417 : (List AV)) (A : AH) (rk : Option Ln) (ca : Nat) (cb : Nat) => ((withR n (uniP tab fs pr (uniHR n (uniVs (uniGR n p.2.2.2.1 G) p.2.2.1.2.2.2.1 (appQ st q_2417)) p.2.2.1.2.2.2.2.1 A) p.2.2.1.2.2.2.2.2) (onePt n G rk A pr tab fs ca cb p (appQ st q_2417))) : Bool)
noncomputable def atPt_a1 :=
  fun (n : Nat) (tab : Tb) (fs : List Ln) (pr : List PD) (p : PE) (G : List Ln) (st : List AV) (q_2417 : (List AV)) (A : AH) (rk : Option Ln) (ca : Nat) (cb : Nat) => ((Bool.rec (motive := fun _ => Bool) false (atPt_a0 n tab fs pr p G st q_2417 A rk ca cb) (Nat.beq (lenQ p.2.2.1.2.2.2.2.1) (lenQ A))) : Bool)
noncomputable def atPt_a2 :=
  fun (n : Nat) (tab : Tb) (fs : List Ln) (pr : List PD) (p : PE) (G : List Ln) (st : List AV) (q_2417 : (List AV)) (A : AH) (rk : Option Ln) (ca : Nat) (cb : Nat) => ((Bool.rec (motive := fun _ => Bool) false (atPt_a1 n tab fs pr p G st q_2417 A rk ca cb) (lookC tab p.2.2.1.2.2.2.2.1 A)) : Bool)
noncomputable def atPt_a3 :=
  fun (n : Nat) (tab : Tb) (fs : List Ln) (pr : List PD) (p : PE) (G : List Ln) (st : List AV) (q_2417 : (List AV)) (A : AH) (rk : Option Ln) (ca : Nat) (cb : Nat) => ((Bool.rec (motive := fun _ => Bool) false (atPt_a2 n tab fs pr p G st q_2417 A rk ca cb) (preVs tab p.2.2.1.2.2.2.1 (appQ st q_2417))) : Bool)
noncomputable def atPt_a4 :=
  fun (n : Nat) (tab : Tb) (fs : List Ln) (pr : List PD) (p : PE) (G : List Ln) (st : List AV) (q_2417 : (List AV)) (A : AH) (rk : Option Ln) (ca : Nat) (cb : Nat) => ((Bool.rec (motive := fun _ => Bool) false (atPt_a3 n tab fs pr p G st q_2417 A rk ca cb) (Nat.beq (Nat.add (lenQ st) (lenQ p.2.1)) (lenQ p.2.2.1.2.2.2.1))) : Bool)
noncomputable def atPt (n : Nat) (G : List Ln) (rk : Option Ln) (pc : Nat) (st : List AV) (lv : AL) (A : AH) (pr : List PD) (tab : Tb) (fs : List Ln) (ca cb : Nat) (p : PE) : Bool :=
  (Bool.rec (motive := fun _ => Bool) false (Option.rec (motive := fun _ => Bool) false (fun q_2417 => (atPt_a4 n tab fs pr p G st q_2417 A rk ca cb)) (lvAt lv p.2.1)) (Nat.beq pc p.1))
theorem atPt_def (n : Nat) (G : List Ln) (rk : Option Ln) (pc : Nat) (st : List AV) (lv : AL) (A : AH) (pr : List PD) (tab : Tb) (fs : List Ln) (ca cb : Nat) (p : PE) : atPt n G rk pc st lv A pr tab fs ca cb p = (bif Nat.beq pc p.1 then (match lvAt lv p.2.1 with
  | some q => (bif Nat.beq (Nat.add st.length p.2.1.length) p.2.2.1.2.2.2.1.length then (bif preVs tab p.2.2.1.2.2.2.1 (st ++ q) then (bif lookC tab p.2.2.1.2.2.2.2.1 A then (bif Nat.beq p.2.2.1.2.2.2.2.1.length A.length then withR n (uniP tab fs pr (uniHR n (uniVs (uniGR n p.2.2.2.1 G) p.2.2.1.2.2.2.1 (st ++ q)) p.2.2.1.2.2.2.2.1 A) p.2.2.1.2.2.2.2.2) (onePt n G rk A pr tab fs ca cb p (st ++ q)) else false) else false) else false) else false)
  | none => false) else false) := by
  show (Bool.rec (motive := fun _ => Bool) false (Option.rec (motive := fun _ => Bool) false (fun q_2416 => (Bool.rec (motive := fun _ => Bool) false (Bool.rec (motive := fun _ => Bool) false (Bool.rec (motive := fun _ => Bool) false (Bool.rec (motive := fun _ => Bool) false (withR n (uniP tab fs pr (uniHR n (uniVs (uniGR n p.2.2.2.1 G) p.2.2.1.2.2.2.1 (appQ st q_2416)) p.2.2.1.2.2.2.2.1 A) p.2.2.1.2.2.2.2.2) (onePt n G rk A pr tab fs ca cb p (appQ st q_2416))) (Nat.beq (lenQ p.2.2.1.2.2.2.2.1) (lenQ A))) (lookC tab p.2.2.1.2.2.2.2.1 A)) (preVs tab p.2.2.1.2.2.2.1 (appQ st q_2416))) (Nat.beq (Nat.add (lenQ st) (lenQ p.2.1)) (lenQ p.2.2.1.2.2.2.1)))) (lvAt lv p.2.1)) (Nat.beq pc p.1)) = _
  try simp only [iAddQ_eq, iMulQ_eq, iNegQ_eq, lenQ_eq, nthQ_eq, setQ_eq, appQ_eq, mapQ_eq, allQ_eq, anyQ_eq, dropQ_eq, takeQ_eq, revQ_eq, getDQ_eq, optLQ_eq, brecC]
  all_goals
    cases hq_1 : (Nat.beq pc p.1) with
    | false =>
      try dsimp only [cond_false, cond_true]
      all_goals rfl
    | true =>
      try dsimp only [cond_false, cond_true]
      all_goals
        cases hq_2 : (lvAt lv p.2.1) with
        | none =>
          try dsimp only [cond_false, cond_true]
          all_goals rfl
        | some y_2418 =>
          try dsimp only [cond_false, cond_true]
          all_goals
            cases hq_3 : (Nat.beq ((Nat.add st.length p.2.1.length)) p.2.2.1.2.2.2.1.length) with
            | false =>
              try dsimp only [cond_false, cond_true]
              all_goals rfl
            | true =>
              try dsimp only [cond_false, cond_true]
              all_goals
                cases hq_4 : (preVs tab p.2.2.1.2.2.2.1 ((st ++ y_2418))) with
                | false =>
                  try dsimp only [cond_false, cond_true]
                  all_goals rfl
                | true =>
                  try dsimp only [cond_false, cond_true]
                  all_goals
                    cases hq_5 : (lookC tab p.2.2.1.2.2.2.2.1 A) with
                    | false =>
                      try dsimp only [cond_false, cond_true]
                      all_goals rfl
                    | true =>
                      try dsimp only [cond_false, cond_true]
                      all_goals
                        cases hq_6 : (Nat.beq p.2.2.1.2.2.2.2.1.length A.length) with
                        | false =>
                          try dsimp only [cond_false, cond_true]
                          all_goals rfl
                        | true =>
                          try dsimp only [cond_false, cond_true]
                          all_goals rfl
noncomputable def anyPt_a0 :=
  fun (ih : Bool) (n : Nat) (G : List Ln) (rk : Option Ln) (pc : Nat) (st : List AV) (lv : AL) (A : AH) (pr : List PD) (tab : Tb) (fs : List Ln) (ca : Nat) (cb : Nat) (h_0 : PE) => ((Bool.rec (motive := fun _ => Bool) (ih) true (atPt n G rk pc st lv A pr tab fs ca cb h_0)) : Bool)
noncomputable def anyPt (n : Nat) (G : List Ln) (rk : Option Ln) (pc : Nat) (st : List AV) (lv : AL) (A : AH) (pr : List PD) (tab : Tb) (fs : List Ln) (ca cb : Nat) : List PE → Bool :=
  fun e_0 => List.rec (motive := fun _ => Bool) false (fun h_0 t_0 ih => (anyPt_a0 ih n G rk pc st lv A pr tab fs ca cb h_0)) e_0 
theorem anyPt_def (n : Nat) (G : List Ln) (rk : Option Ln) (pc : Nat) (st : List AV) (lv : AL) (A : AH) (pr : List PD) (tab : Tb) (fs : List Ln) (ca cb : Nat) (e_0 : List PE) : anyPt n G rk pc st lv A pr tab fs ca cb e_0 = (match e_0 with
  | [] => false
  | p :: r => bif atPt n G rk pc st lv A pr tab fs ca cb p then true else anyPt n G rk pc st lv A pr tab fs ca cb r) := by
  cases e_0 with
  | nil =>
    show false = _
    try simp only [iAddQ_eq, iMulQ_eq, iNegQ_eq, lenQ_eq, nthQ_eq, setQ_eq, appQ_eq, mapQ_eq, allQ_eq, anyQ_eq, dropQ_eq, takeQ_eq, revQ_eq, getDQ_eq, optLQ_eq, brecC]
    all_goals rfl
  | cons h_0 t_0 =>
    show (Bool.rec (motive := fun _ => Bool) (anyPt n G rk pc st lv A pr tab fs ca cb t_0) true (atPt n G rk pc st lv A pr tab fs ca cb h_0)) = _
    try simp only [iAddQ_eq, iMulQ_eq, iNegQ_eq, lenQ_eq, nthQ_eq, setQ_eq, appQ_eq, mapQ_eq, allQ_eq, anyQ_eq, dropQ_eq, takeQ_eq, revQ_eq, getDQ_eq, optLQ_eq, brecC]
    all_goals
      cases hq_1 : (atPt n G rk pc st lv A pr tab fs ca cb h_0) with
      | false =>
        try dsimp only [cond_false, cond_true]
        all_goals rfl
      | true =>
        try dsimp only [cond_false, cond_true]
        all_goals rfl
abbrev KK : Type := Nat → List AV → AL → AH → List PD → Nat → Tb → List Ln → Nat → Nat → Bool
noncomputable def pushF (nx : Nat) (fs : List Ln) (f : Option Ln) : List Ln :=
  (Option.rec (motive := fun _ => List Ln) fs (fun e_2420 => ((subL (sL nx) e_2420) :: fs)) f)
theorem pushF_def (nx : Nat) (fs : List Ln) (f : Option Ln) : pushF nx fs f = (match f with
  | some e => subL (sL nx) e :: fs
  | none => fs) := by
  show (Option.rec (motive := fun _ => List Ln) fs (fun e_2419 => ((subL (sL nx) e_2419) :: fs)) f) = _
  all_goals
    cases f with
    | none =>
      try dsimp only [cond_false, cond_true]
      all_goals rfl
    | some y_2421 =>
      try dsimp only [cond_false, cond_true]
      all_goals rfl
noncomputable def pushR_a0 :=
  fun (k : Nat → Tb → List Ln → AV → Bool) (nx : Nat) (tab : Tb) (fs : List Ln) (lg_2434 : Bool) (e_2436 : Ln) => ((k nx tab fs (.inl (lg_2434, e_2436))) : Bool)
noncomputable def pushR_a1 :=
  fun (k : Nat → Tb → List Ln → AV → Bool) (nx : Nat) (lo_2438 : Int) (hi_2440 : Int) (tab : Tb) (fs : List Ln) (f_2441 : Option Ln) (lg_2434 : Bool) => ((k (Nat.succ nx) (tbIns nx lo_2438 hi_2440 tab) (pushF nx fs f_2441) (.inl (lg_2434, (sL nx)))) : Bool)
noncomputable def pushR_a2 :=
  fun (k : Nat → Tb → List Ln → AV → Bool) (nx : Nat) (tab : Tb) (fs : List Ln) (lg_2434 : Bool) (lo_2438 : Int) => ((k nx tab fs (.inl (lg_2434, (kL lo_2438)))) : Bool)
noncomputable def pushR_a3 :=
  fun (k : Nat → Tb → List Ln → AV → Bool) (nx : Nat) (lo_2438 : Int) (hi_2440 : Int) (tab : Tb) (fs : List Ln) (f_2441 : Option Ln) (lg_2434 : Bool) => ((Bool.rec (motive := fun _ => Bool) (pushR_a1 k nx lo_2438 hi_2440 tab fs f_2441 lg_2434) (pushR_a2 k nx tab fs lg_2434 lo_2438) (eqI lo_2438 hi_2440)) : Bool)
noncomputable def pushR (nx : Nat) (tab : Tb) (fs : List Ln) (r : RV) (k : Nat → Tb → List Ln → AV → Bool) : Bool :=
  (Sum.rec (motive := fun _ => Bool) (fun v_2432 => (k nx tab fs v_2432)) (fun x_2433 => (Prod.rec (motive := fun _ => Bool) (fun lg_2434 x_2435 => (Sum.rec (motive := fun _ => Bool) (fun e_2436 => (pushR_a0 k nx tab fs lg_2434 e_2436)) (fun x_2437 => (Prod.rec (motive := fun _ => Bool) (fun lo_2438 x_2439 => (Prod.rec (motive := fun _ => Bool) (fun hi_2440 f_2441 => (pushR_a3 k nx lo_2438 hi_2440 tab fs f_2441 lg_2434)) x_2439)) x_2437)) x_2435)) x_2433)) r)
theorem pushR_def (nx : Nat) (tab : Tb) (fs : List Ln) (r : RV) (k : Nat → Tb → List Ln → AV → Bool) : pushR nx tab fs r k = (match r with
  | .inl v => k nx tab fs v
  | .inr (lg, .inl e) => k nx tab fs (.inl (lg, e))
  | .inr (lg, .inr (lo, hi, f)) => bif eqI lo hi then k nx tab fs (.inl (lg, kL lo)) else k (Nat.succ nx) (tbIns nx lo hi tab) (pushF nx fs f) (.inl (lg, sL nx))) := by
  show (Sum.rec (motive := fun _ => Bool) (fun v_2422 => (k nx tab fs v_2422)) (fun x_2423 => (Prod.rec (motive := fun _ => Bool) (fun lg_2424 x_2425 => (Sum.rec (motive := fun _ => Bool) (fun e_2426 => (k nx tab fs (.inl (lg_2424, e_2426)))) (fun x_2427 => (Prod.rec (motive := fun _ => Bool) (fun lo_2428 x_2429 => (Prod.rec (motive := fun _ => Bool) (fun hi_2430 f_2431 => (Bool.rec (motive := fun _ => Bool) (k (Nat.succ nx) (tbIns nx lo_2428 hi_2430 tab) (pushF nx fs f_2431) (.inl (lg_2424, (sL nx)))) (k nx tab fs (.inl (lg_2424, (kL lo_2428)))) (eqI lo_2428 hi_2430))) x_2429)) x_2427)) x_2425)) x_2423)) r) = _
  try simp only [iAddQ_eq, iMulQ_eq, iNegQ_eq, lenQ_eq, nthQ_eq, setQ_eq, appQ_eq, mapQ_eq, allQ_eq, anyQ_eq, dropQ_eq, takeQ_eq, revQ_eq, getDQ_eq, optLQ_eq, brecC]
  all_goals
    cases r with
    | inl y_2442 =>
      try dsimp only [cond_false, cond_true]
      all_goals rfl
    | inr y_2443 =>
      try dsimp only [cond_false, cond_true]
      all_goals
        cases y_2443 with
        | mk y_2444 y_2445 =>
          try dsimp only [cond_false, cond_true]
          all_goals
            cases y_2445 with
            | inl y_2446 =>
              try dsimp only [cond_false, cond_true]
              all_goals rfl
            | inr y_2447 =>
              try dsimp only [cond_false, cond_true]
              all_goals
                cases y_2447 with
                | mk y_2448 y_2449 =>
                  try dsimp only [cond_false, cond_true]
                  all_goals
                    cases y_2449 with
                    | mk y_2450 y_2451 =>
                      try dsimp only [cond_false, cond_true]
                      all_goals
                        cases hq_6 : (eqI y_2448 y_2450) with
                        | false =>
                          try dsimp only [cond_false, cond_true]
                          all_goals rfl
                        | true =>
                          try dsimp only [cond_false, cond_true]
                          all_goals rfl
noncomputable def onO (r : Option (Tb × List Ln)) (f : Tb → List Ln → Bool) : Bool := match r with
  | some (t, g) => f t g
  | none => true
noncomputable def onJ (r : Option Nat) (f : Nat → Bool) : Bool := match r with
  | some t => f t
  | none => false
noncomputable def br (k : Nat → Tb → List Ln → Bool) (c : Jvm.ClassFile.Cond) (tab : Tb) (fs : List Ln) (x y : Ln) (t e : Nat) : Bool := bif onO (asm c tab fs x y) (k t) then onO (asm (negC c) tab fs x y) (k e) else false
/-- of longs: unlike is below or above -/
noncomputable def brC (k : Nat → Tb → List Ln → Bool) (c : Jvm.ClassFile.Cond) (tab : Tb) (fs : List Ln) (x y : Ln) (t e : Nat) : Bool := match c with
  | .eq => bif onO (asm .eq tab fs x y) (k t) then (bif onO (asm .lt tab fs x y) (k e) then onO (asm .gt tab fs x y) (k e) else false) else false
  | .ne => bif onO (asm .eq tab fs x y) (k e) then (bif onO (asm .lt tab fs x y) (k t) then onO (asm .gt tab fs x y) (k t) else false) else false
  | c => br k c tab fs x y t e
noncomputable def tsAll (k : Nat → Tb → List Ln → Bool) (pc : Nat) (tab : Tb) (fs : List Ln) (x : Ln) : Int → List Int → Bool
  | _, [] => true
  | v, off :: r => bif onO (asm .eq tab fs x (kL v)) (fun tab' fs' => onJ (jmpA pc off) (fun t => k t tab' fs')) then tsAll k pc tab fs x (Int.add v 1) r else false
noncomputable def lsAll (k : Nat → Tb → List Ln → Bool) (pc : Nat) (tab : Tb) (fs : List Ln) (x : Ln) : List (Int × Int) → Bool
  | [] => true
  | (v, off) :: r => bif onO (asm .eq tab fs x (kL v)) (fun tab' fs' => onJ (jmpA pc off) (fun t => k t tab' fs')) then lsAll k pc tab fs x r else false
noncomputable def lsNe (x : Ln) : List (Int × Int) → Tb → List Ln → Option (Tb × List Ln)
  | [], tab, fs => some (tab, fs)
  | (v, _) :: r, tab, fs => match asm .ne tab fs x (kL v) with
    | some (tab', fs') => lsNe x r tab' fs'
    | none => none
noncomputable def g2 (k : Nat → List AV → Tb → List Ln → Bool) (i : Instr) (pc : Nat) (tab : Tb) (fs : List Ln) (st : List AV) : Bool := match i with
  | .goto off => onJ (jmpA pc off) (fun t => k t st tab fs)
  | .ifCond c off => onJ (jmpA pc off) (fun t => match st with
      | .inl (false, x) :: r => br (fun t => k t r) c tab fs x (kL 0) t (Nat.add pc 3)
      | .inr (.inr (p, q)) :: r => brC (fun t => k t r) c tab fs p q t (Nat.add pc 3)
      | _ => false)
  | .if_icmp c off => onJ (jmpA pc off) (fun t => match st with
      | .inl (false, y) :: .inl (false, x) :: r => br (fun t => k t r) c tab fs x y t (Nat.add pc 3)
      | _ => false)
  | .ifnull off => match st with
    | .inr (.inl (some _)) :: r => k (Nat.add pc 3) r tab fs
    | .inr (.inl none) :: r => onJ (jmpA pc off) (fun t => k t r tab fs)
    | _ => false
  | .ifnonnull off => match st with
    | .inr (.inl (some _)) :: r => onJ (jmpA pc off) (fun t => k t r tab fs)
    | .inr (.inl none) :: r => k (Nat.add pc 3) r tab fs
    | _ => false
  | .tableswitch d lo hi offs => match st with
    | .inl (false, x) :: r => onJ (jmpA pc d) (fun t => bif leI (Int.add (Int.add hi (Int.neg lo)) 1) (.ofNat offs.toList.length) then (bif onO (asm .lt tab fs x (kL lo)) (k t r) then (bif onO (asm .gt tab fs x (kL hi)) (k t r) then tsAll (fun t => k t r) pc tab fs x lo offs.toList else false) else false) else false)
    | _ => false
  | .lookupswitch d ps => match st with
    | .inl (false, x) :: r => onJ (jmpA pc d) (fun t => bif (ps.toList.zip (ps.toList.drop 1)).all (fun (a, next) => a.1 < next.1) then (bif onO (lsNe x ps.toList tab fs) (k t r) then lsAll (fun t => k t r) pc tab fs x ps.toList else false) else false)
    | _ => false
  | _ => false
noncomputable def loopJ_a0 :=
  fun (ih : Nat → Bool) (e_1 : Nat) (f : Nat → Bool) => ((Bool.rec (motive := fun _ => Bool) false (ih (Nat.succ e_1)) (f e_1)) : Bool)
noncomputable def loopJ (f : Nat → Bool) : Nat → Nat → Bool :=
  fun e_0 e_1 => Nat.rec (motive := fun _ => Nat → Bool) (fun e_1 => true) (fun t_0 ih e_1 => (loopJ_a0 ih e_1 f)) e_0 e_1
theorem loopJ_def (f : Nat → Bool) (e_0 : Nat) (e_1 : Nat) : loopJ f e_0 e_1 = (match e_0, e_1 with
  | 0, _ => true
  | c + 1, j => bif f j then loopJ f c (Nat.succ j) else false) := by
  cases e_0 with
  | zero =>
    show true = _
    try simp only [iAddQ_eq, iMulQ_eq, iNegQ_eq, lenQ_eq, nthQ_eq, setQ_eq, appQ_eq, mapQ_eq, allQ_eq, anyQ_eq, dropQ_eq, takeQ_eq, revQ_eq, getDQ_eq, optLQ_eq, brecC]
    all_goals rfl
  | succ t_0 =>
    show (Bool.rec (motive := fun _ => Bool) false (loopJ f t_0 (Nat.succ e_1)) (f e_1)) = _
    try simp only [iAddQ_eq, iMulQ_eq, iNegQ_eq, lenQ_eq, nthQ_eq, setQ_eq, appQ_eq, mapQ_eq, allQ_eq, anyQ_eq, dropQ_eq, takeQ_eq, revQ_eq, getDQ_eq, optLQ_eq, brecC]
    all_goals
      cases hq_1 : (f e_1) with
      | false =>
        try dsimp only [cond_false, cond_true]
        all_goals rfl
      | true =>
        try dsimp only [cond_false, cond_true]
        all_goals rfl
noncomputable def rfA (o : Option Nat) : AV := .inr (.inl o)
noncomputable def aaL (k : List AV → Tb → List Ln → Bool) (tab : Tb) (fs : List Ln) (A : AH) (st : List AV) : Bool := match st with
  | .inl (false, e) :: .inr (.inl (some q)) :: r => (match A[q]? with
    | some (.inr (kk, .inr (.inr l))) => bif Nat.ble 4 kk then (bif Nat.blt kk 8 then (match idxR tab fs e with
      | some (x, u) => bif Nat.blt u l.length then loopJ (fun j => onO (asm .eq tab fs e (kL (.ofNat j))) (fun tab' fs' => k (rfA (l.getD j none) :: r) tab' fs')) (Nat.succ (Nat.sub u x)) x else false
      | none => false) else false) else false
    | _ => false)
  | _ => false
-- a call
noncomputable def sbV_a0 :=
  fun (θ : Th) (p_2466 : Ln) (q_2467 : Ln) => ((.inr (.inr ((sbL θ p_2466), (sbL θ q_2467)))) : AV)
noncomputable def sbV (θ : Th) (a : AV) : AV :=
  (Sum.rec (motive := fun _ => AV) (fun x_2460 => (Prod.rec (motive := fun _ => AV) (fun b_2462 e_2463 => (.inl (b_2462, (sbL θ e_2463)))) x_2460)) (fun x_2461 => (Sum.rec (motive := fun _ => AV) (fun x_2464 => a) (fun x_2465 => (Prod.rec (motive := fun _ => AV) (fun p_2466 q_2467 => (sbV_a0 θ p_2466 q_2467)) x_2465)) x_2461)) a)
theorem sbV_def (θ : Th) (a : AV) : sbV θ a = (match a with
  | .inl (b, e) => .inl (b, sbL θ e)
  | .inr (.inr (p, q)) => .inr (.inr (sbL θ p, sbL θ q))
  | a => a) := by
  show (Sum.rec (motive := fun _ => AV) (fun x_2452 => (Prod.rec (motive := fun _ => AV) (fun b_2454 e_2455 => (.inl (b_2454, (sbL θ e_2455)))) x_2452)) (fun x_2453 => (Sum.rec (motive := fun _ => AV) (fun x_2456 => a) (fun x_2457 => (Prod.rec (motive := fun _ => AV) (fun p_2458 q_2459 => (.inr (.inr ((sbL θ p_2458), (sbL θ q_2459))))) x_2457)) x_2453)) a) = _
  all_goals
    cases a with
    | inl y_2468 =>
      try dsimp only [cond_false, cond_true]
      all_goals
        cases y_2468 with
        | mk y_2469 y_2470 =>
          try dsimp only [cond_false, cond_true]
          all_goals rfl
    | inr y_2471 =>
      try dsimp only [cond_false, cond_true]
      all_goals
        cases y_2471 with
        | inl y_2472 =>
          try dsimp only [cond_false, cond_true]
          all_goals rfl
        | inr y_2473 =>
          try dsimp only [cond_false, cond_true]
          all_goals
            cases y_2473 with
            | mk y_2474 y_2475 =>
              try dsimp only [cond_false, cond_true]
              all_goals rfl
noncomputable def sbS (θ : Th) (s : Sg) : Sg :=
  (Sum.rec (motive := fun _ => Sg) (fun e_2478 => (.inl (sbL θ e_2478))) (fun x_2479 => s) s)
theorem sbS_def (θ : Th) (s : Sg) : sbS θ s = (match s with
  | .inl e => .inl (sbL θ e)
  | s => s) := by
  show (Sum.rec (motive := fun _ => Sg) (fun e_2476 => (.inl (sbL θ e_2476))) (fun x_2477 => s) s) = _
  all_goals
    cases s with
    | inl y_2480 =>
      try dsimp only [cond_false, cond_true]
      all_goals rfl
    | inr y_2481 =>
      try dsimp only [cond_false, cond_true]
      all_goals rfl
noncomputable def sbC_a0 :=
  fun (ci_2492 : Nat) (θ : Th) (as_2493 : List AV) => ((.inl (ci_2492, (mapQ (sbV θ) as_2493))) : AC)
noncomputable def sbC_a1 :=
  fun (k_2494 : Nat) (θ : Th) (s_2496 : List Sg) => ((.inr (k_2494, (.inl (mapQ (sbS θ) s_2496)))) : AC)
noncomputable def sbC (θ : Th) (c : AC) : AC :=
  (Sum.rec (motive := fun _ => AC) (fun x_2490 => (Prod.rec (motive := fun _ => AC) (fun ci_2492 as_2493 => (sbC_a0 ci_2492 θ as_2493)) x_2490)) (fun x_2491 => (Prod.rec (motive := fun _ => AC) (fun k_2494 x_2495 => (Sum.rec (motive := fun _ => AC) (fun s_2496 => (sbC_a1 k_2494 θ s_2496)) (fun x_2497 => c) x_2495)) x_2491)) c)
theorem sbC_def (θ : Th) (c : AC) : sbC θ c = (match c with
  | .inl (ci, as) => .inl (ci, as.map (sbV θ))
  | .inr (k, .inl s) => .inr (k, .inl (s.map (sbS θ)))
  | c => c) := by
  show (Sum.rec (motive := fun _ => AC) (fun x_2482 => (Prod.rec (motive := fun _ => AC) (fun ci_2484 as_2485 => (.inl (ci_2484, (mapQ (sbV θ) as_2485)))) x_2482)) (fun x_2483 => (Prod.rec (motive := fun _ => AC) (fun k_2486 x_2487 => (Sum.rec (motive := fun _ => AC) (fun s_2488 => (.inr (k_2486, (.inl (mapQ (sbS θ) s_2488))))) (fun x_2489 => c) x_2487)) x_2483)) c) = _
  try simp only [iAddQ_eq, iMulQ_eq, iNegQ_eq, lenQ_eq, nthQ_eq, setQ_eq, appQ_eq, mapQ_eq, allQ_eq, anyQ_eq, dropQ_eq, takeQ_eq, revQ_eq, getDQ_eq, optLQ_eq, brecC]
  all_goals
    cases c with
    | inl y_2498 =>
      try dsimp only [cond_false, cond_true]
      all_goals
        cases y_2498 with
        | mk y_2499 y_2500 =>
          try dsimp only [cond_false, cond_true]
          all_goals rfl
    | inr y_2501 =>
      try dsimp only [cond_false, cond_true]
      all_goals
        cases y_2501 with
        | mk y_2502 y_2503 =>
          try dsimp only [cond_false, cond_true]
          all_goals
            cases y_2503 with
            | inl y_2504 =>
              try dsimp only [cond_false, cond_true]
              all_goals rfl
            | inr y_2505 =>
              try dsimp only [cond_false, cond_true]
              all_goals rfl
/-- the outcome's own symbols become new ones -/
noncomputable def thN (θ : Th) (nx pnx : Nat) (s : Nat) : Ln :=
  (Bool.rec (motive := fun _ => Ln) (sL (Nat.add nx (Nat.sub s pnx))) (θ s) (Nat.blt s pnx))
theorem thN_def (θ : Th) (nx pnx : Nat) (s : Nat) : thN θ nx pnx s = bif Nat.blt s pnx then θ s else sL (Nat.add nx (Nat.sub s pnx)) := by
  show (Bool.rec (motive := fun _ => Ln) (sL (Nat.add nx (Nat.sub s pnx))) (θ s) (Nat.blt s pnx)) = _
  try simp only [iAddQ_eq, iMulQ_eq, iNegQ_eq, lenQ_eq, nthQ_eq, setQ_eq, appQ_eq, mapQ_eq, allQ_eq, anyQ_eq, dropQ_eq, takeQ_eq, revQ_eq, getDQ_eq, optLQ_eq, brecC]
  all_goals
    cases hq_1 : (Nat.blt s pnx) with
    | false =>
      try dsimp only [cond_false, cond_true]
      all_goals rfl
    | true =>
      try dsimp only [cond_false, cond_true]
      all_goals rfl
/-- their bounds, below all that was known -/
noncomputable def tbN (tab : Tb) (nx pnx : Nat) (f : Nat → Option (Int × Int)) : Tb :=
  ([], (fun t => (Bool.rec (motive := fun _ => _) (tbLk t tab) (f (Nat.add pnx (Nat.sub t nx))) (Nat.ble nx t))))
theorem tbN_def (tab : Tb) (nx pnx : Nat) (f : Nat → Option (Int × Int)) : tbN tab nx pnx f = ([], fun t => bif Nat.ble nx t then f (Nat.add pnx (Nat.sub t nx)) else tbLk t tab) := by
  show ([], (fun t => (Bool.rec (motive := fun _ => _) (tbLk t tab) (f (Nat.add pnx (Nat.sub t nx))) (Nat.ble nx t)))) = _
  try simp only [iAddQ_eq, iMulQ_eq, iNegQ_eq, lenQ_eq, nthQ_eq, setQ_eq, appQ_eq, mapQ_eq, allQ_eq, anyQ_eq, dropQ_eq, takeQ_eq, revQ_eq, getDQ_eq, optLQ_eq, brecC]
  all_goals rfl
noncomputable def tbO (tab : Tb) (nx pnx onx : Nat) (l : TbL) : Tb :=
  (Bool.rec (motive := fun _ => Tb) (Prod.rec (motive := fun _ => Tb) (fun x_2510 x_2511 => (Prod.rec (motive := fun _ => Tb) (fun f_2512 x_2513 => (tbN tab nx pnx f_2512)) x_2511)) (balT (nat_lit 9) l)) tab (Nat.beq onx pnx))
theorem tbO_def (tab : Tb) (nx pnx onx : Nat) (l : TbL) : tbO tab nx pnx onx l = (bif Nat.beq onx pnx then tab else match balT 9 l with
  | (_, f, _) => tbN tab nx pnx f) := by
  show (Bool.rec (motive := fun _ => Tb) (Prod.rec (motive := fun _ => Tb) (fun x_2506 x_2507 => (Prod.rec (motive := fun _ => Tb) (fun f_2508 x_2509 => (tbN tab nx pnx f_2508)) x_2507)) (balT (nat_lit 9) l)) tab (Nat.beq onx pnx)) = _
  try simp only [iAddQ_eq, iMulQ_eq, iNegQ_eq, lenQ_eq, nthQ_eq, setQ_eq, appQ_eq, mapQ_eq, allQ_eq, anyQ_eq, dropQ_eq, takeQ_eq, revQ_eq, getDQ_eq, optLQ_eq, brecC]
  all_goals
    cases hq_1 : (Nat.beq onx pnx) with
    | false =>
      try dsimp only [cond_false, cond_true]
      all_goals
        cases hq_2 : (balT 9 l) with
        | mk y_2514 y_2515 =>
          try dsimp only [cond_false, cond_true]
          all_goals
            cases y_2515 with
            | mk y_2516 y_2517 =>
              try dsimp only [cond_false, cond_true]
              all_goals rfl
    | true =>
      try dsimp only [cond_false, cond_true]
      all_goals rfl
noncomputable def isFr (e : Ln) (tab : Tb) : Bool :=
  (List.rec (motive := fun _ => Bool) false (fun x_2525 x_2526 _ => (Prod.rec (motive := fun _ => Bool) (fun t_2527 k_2528 => (List.rec (motive := fun _ => Bool) (Bool.rec (motive := fun _ => Bool) false (Bool.rec (motive := fun _ => Bool) false (Option.rec (motive := fun _ => Bool) true (fun x_2531 => false) (tbLk t_2527 tab)) (eqI k_2528 (.ofNat (nat_lit 1)))) (isZ e.1)) (fun x_2529 x_2530 _ => false) x_2526)) x_2525)) e.2)
theorem isFr_def (e : Ln) (tab : Tb) : isFr e tab = (match e.2 with
  | [(t, k)] => bif isZ e.1 then (bif eqI k 1 then (match tbLk t tab with
    | none => true
    | some _ => false) else false) else false
  | _ => false) := by
  show (List.rec (motive := fun _ => Bool) false (fun x_2518 x_2519 _ => (Prod.rec (motive := fun _ => Bool) (fun t_2520 k_2521 => (List.rec (motive := fun _ => Bool) (Bool.rec (motive := fun _ => Bool) false (Bool.rec (motive := fun _ => Bool) false (Option.rec (motive := fun _ => Bool) true (fun x_2524 => false) (tbLk t_2520 tab)) (eqI k_2521 (.ofNat (nat_lit 1)))) (isZ e.1)) (fun x_2522 x_2523 _ => false) x_2519)) x_2518)) e.2) = _
  try simp only [iAddQ_eq, iMulQ_eq, iNegQ_eq, lenQ_eq, nthQ_eq, setQ_eq, appQ_eq, mapQ_eq, allQ_eq, anyQ_eq, dropQ_eq, takeQ_eq, revQ_eq, getDQ_eq, optLQ_eq, brecC]
  all_goals
    cases hq_1 : e.2 with
    | nil =>
      try dsimp only [cond_false, cond_true]
      all_goals rfl
    | cons y_2532 y_2533 =>
      try dsimp only [cond_false, cond_true]
      all_goals
        cases y_2532 with
        | mk y_2534 y_2535 =>
          try dsimp only [cond_false, cond_true]
          all_goals
            cases y_2533 with
            | nil =>
              try dsimp only [cond_false, cond_true]
              all_goals
                cases hq_4 : (isZ e.1) with
                | false =>
                  try dsimp only [cond_false, cond_true]
                  all_goals rfl
                | true =>
                  try dsimp only [cond_false, cond_true]
                  all_goals
                    cases hq_5 : (eqI y_2535 1) with
                    | false =>
                      try dsimp only [cond_false, cond_true]
                      all_goals rfl
                    | true =>
                      try dsimp only [cond_false, cond_true]
                      all_goals
                        cases hq_6 : (tbLk y_2534 tab) with
                        | none =>
                          try dsimp only [cond_false, cond_true]
                          all_goals rfl
                        | some y_2536 =>
                          try dsimp only [cond_false, cond_true]
                          all_goals rfl
            | cons y_2537 y_2538 =>
              try dsimp only [cond_false, cond_true]
              all_goals rfl
noncomputable def hdS (e : Ln) : Nat :=
  (List.rec (motive := fun _ => Nat) (nat_lit 0) (fun x_2543 x_2544 _ => (Prod.rec (motive := fun _ => Nat) (fun t_2545 x_2546 => t_2545) x_2543)) e.2)
theorem hdS_def (e : Ln) : hdS e = (match e.2 with
  | (t, _) :: _ => t
  | [] => 0) := by
  show (List.rec (motive := fun _ => Nat) (nat_lit 0) (fun x_2539 x_2540 _ => (Prod.rec (motive := fun _ => Nat) (fun t_2541 x_2542 => t_2541) x_2539)) e.2) = _
  all_goals
    cases hq_1 : e.2 with
    | nil =>
      try dsimp only [cond_false, cond_true]
      all_goals rfl
    | cons y_2547 y_2548 =>
      try dsimp only [cond_false, cond_true]
      all_goals
        cases y_2547 with
        | mk y_2549 y_2550 =>
          try dsimp only [cond_false, cond_true]
          all_goals rfl
noncomputable def addB_a0 :=
  fun (tab_2555 : Tb) (fs_2556 : List Ln) (lo : Int) (e : Ln) => ((addLe tab_2555 fs_2556 (subL (kL lo) e)) : Option (Tb × List Ln))
noncomputable def addB_a1 :=
  fun (e : Ln) (lo : Int) (hi : Int) (tab : Tb) (fs : List Ln) => ((some ((tbIns (hdS e) lo hi tab), fs)) : Option (Tb × List Ln))
noncomputable def addB (e : Ln) (lo hi : Int) (tab : Tb) (fs : List Ln) : Option (Tb × List Ln) :=
  (Bool.rec (motive := fun _ => Option (Tb × List Ln)) (Option.rec (motive := fun _ => Option (Tb × List Ln)) none (fun x_2554 => (Prod.rec (motive := fun _ => Option (Tb × List Ln)) (fun tab_2555 fs_2556 => (addB_a0 tab_2555 fs_2556 lo e)) x_2554)) (addLe tab fs (pluL e (iNegQ hi)))) (addB_a1 e lo hi tab fs) (isFr e tab))
theorem addB_def (e : Ln) (lo hi : Int) (tab : Tb) (fs : List Ln) : addB e lo hi tab fs = (bif isFr e tab then some (tbIns (hdS e) lo hi tab, fs) else match addLe tab fs (pluL e (Int.neg hi)) with
  | some (tab', fs') => addLe tab' fs' (subL (kL lo) e)
  | none => none) := by
  show (Bool.rec (motive := fun _ => Option (Tb × List Ln)) (Option.rec (motive := fun _ => Option (Tb × List Ln)) none (fun x_2551 => (Prod.rec (motive := fun _ => Option (Tb × List Ln)) (fun tab_2552 fs_2553 => (addLe tab_2552 fs_2553 (subL (kL lo) e))) x_2551)) (addLe tab fs (pluL e (iNegQ hi)))) (some ((tbIns (hdS e) lo hi tab), fs)) (isFr e tab)) = _
  try simp only [iAddQ_eq, iMulQ_eq, iNegQ_eq, lenQ_eq, nthQ_eq, setQ_eq, appQ_eq, mapQ_eq, allQ_eq, anyQ_eq, dropQ_eq, takeQ_eq, revQ_eq, getDQ_eq, optLQ_eq, brecC]
  all_goals
    cases hq_1 : (isFr e tab) with
    | false =>
      try dsimp only [cond_false, cond_true]
      all_goals
        cases hq_2 : (addLe tab fs ((pluL e ((Int.neg hi))))) with
        | none =>
          try dsimp only [cond_false, cond_true]
          all_goals rfl
        | some y_2557 =>
          try dsimp only [cond_false, cond_true]
          all_goals
            cases y_2557 with
            | mk y_2558 y_2559 =>
              try dsimp only [cond_false, cond_true]
              all_goals rfl
    | true =>
      try dsimp only [cond_false, cond_true]
      all_goals rfl
noncomputable def addT' (θ : Th) (pnx : Nat) : TbL → Tb → List Ln → Option (Tb × List Ln) :=
  fun e_0 e_1 e_2 => List.rec (motive := fun _ => Tb → List Ln → Option (Tb × List Ln)) (fun e_1 e_2 => (some (e_1, e_2))) (fun h_0 t_0 ih e_1 e_2 => (Prod.rec (motive := fun _ => Option (Tb × List Ln)) (fun s_2560 x_2561 => (Prod.rec (motive := fun _ => Option (Tb × List Ln)) (fun lo_2562 hi_2563 => (Bool.rec (motive := fun _ => Option (Tb × List Ln)) (some (e_1, e_2)) (Option.rec (motive := fun _ => Option (Tb × List Ln)) none (fun x_2564 => (Prod.rec (motive := fun _ => Option (Tb × List Ln)) (fun tab_2565 fs_2566 => (ih tab_2565 fs_2566)) x_2564)) (addB (θ s_2560) lo_2562 hi_2563 e_1 e_2)) (Nat.blt s_2560 pnx))) x_2561)) h_0)) e_0 e_1 e_2
theorem addT'_def (θ : Th) (pnx : Nat) (e_0 : TbL) (e_1 : Tb) (e_2 : List Ln) : addT' θ pnx e_0 e_1 e_2 = (match e_0, e_1, e_2 with
  | [], tab, fs => some (tab, fs)
  | (s, lo, hi) :: r, tab, fs => bif Nat.blt s pnx then (match addB (θ s) lo hi tab fs with
    | some (tab', fs') => addT' θ pnx r tab' fs'
    | none => none) else some (tab, fs)) := by
  cases e_0 with
  | nil =>
    show (some (e_1, e_2)) = _
    try simp only [iAddQ_eq, iMulQ_eq, iNegQ_eq, lenQ_eq, nthQ_eq, setQ_eq, appQ_eq, mapQ_eq, allQ_eq, anyQ_eq, dropQ_eq, takeQ_eq, revQ_eq, getDQ_eq, optLQ_eq, brecC]
    all_goals rfl
  | cons h_0 t_0 =>
    show (Prod.rec (motive := fun _ => Option (Tb × List Ln)) (fun s_2567 x_2568 => (Prod.rec (motive := fun _ => Option (Tb × List Ln)) (fun lo_2569 hi_2570 => (Bool.rec (motive := fun _ => Option (Tb × List Ln)) (some (e_1, e_2)) (Option.rec (motive := fun _ => Option (Tb × List Ln)) none (fun x_2571 => (Prod.rec (motive := fun _ => Option (Tb × List Ln)) (fun tab_2572 fs_2573 => (addT' θ pnx t_0 tab_2572 fs_2573)) x_2571)) (addB (θ s_2567) lo_2569 hi_2570 e_1 e_2)) (Nat.blt s_2567 pnx))) x_2568)) h_0) = _
    try simp only [iAddQ_eq, iMulQ_eq, iNegQ_eq, lenQ_eq, nthQ_eq, setQ_eq, appQ_eq, mapQ_eq, allQ_eq, anyQ_eq, dropQ_eq, takeQ_eq, revQ_eq, getDQ_eq, optLQ_eq, brecC]
    all_goals
      cases h_0 with
      | mk y_2574 y_2575 =>
        try dsimp only [cond_false, cond_true]
        all_goals
          cases y_2575 with
          | mk y_2576 y_2577 =>
            try dsimp only [cond_false, cond_true]
            all_goals
              cases hq_3 : (Nat.blt y_2574 pnx) with
              | false =>
                try dsimp only [cond_false, cond_true]
                all_goals rfl
              | true =>
                try dsimp only [cond_false, cond_true]
                all_goals
                  cases hq_4 : (addB ((θ y_2574)) y_2576 y_2577 e_1 e_2) with
                  | none =>
                    try dsimp only [cond_false, cond_true]
                    all_goals rfl
                  | some y_2578 =>
                    try dsimp only [cond_false, cond_true]
                    all_goals
                      cases y_2578 with
                      | mk y_2579 y_2580 =>
                        try dsimp only [cond_false, cond_true]
                        all_goals rfl
noncomputable def addF' (θ : Th) : List Ln → Tb → List Ln → Option (Tb × List Ln) :=
  fun e_0 e_1 e_2 => List.rec (motive := fun _ => Tb → List Ln → Option (Tb × List Ln)) (fun e_1 e_2 => (some (e_1, e_2))) (fun h_0 t_0 ih e_1 e_2 => (Option.rec (motive := fun _ => Option (Tb × List Ln)) none (fun x_2581 => (Prod.rec (motive := fun _ => Option (Tb × List Ln)) (fun tab_2582 fs_2583 => (ih tab_2582 fs_2583)) x_2581)) (addLe e_1 e_2 (sbL θ h_0)))) e_0 e_1 e_2
theorem addF'_def (θ : Th) (e_0 : List Ln) (e_1 : Tb) (e_2 : List Ln) : addF' θ e_0 e_1 e_2 = (match e_0, e_1, e_2 with
  | [], tab, fs => some (tab, fs)
  | f :: r, tab, fs => match addLe tab fs (sbL θ f) with
    | some (tab', fs') => addF' θ r tab' fs'
    | none => none) := by
  cases e_0 with
  | nil =>
    show (some (e_1, e_2)) = _
    try simp only [iAddQ_eq, iMulQ_eq, iNegQ_eq, lenQ_eq, nthQ_eq, setQ_eq, appQ_eq, mapQ_eq, allQ_eq, anyQ_eq, dropQ_eq, takeQ_eq, revQ_eq, getDQ_eq, optLQ_eq, brecC]
    all_goals rfl
  | cons h_0 t_0 =>
    show (Option.rec (motive := fun _ => Option (Tb × List Ln)) none (fun x_2584 => (Prod.rec (motive := fun _ => Option (Tb × List Ln)) (fun tab_2585 fs_2586 => (addF' θ t_0 tab_2585 fs_2586)) x_2584)) (addLe e_1 e_2 (sbL θ h_0))) = _
    try simp only [iAddQ_eq, iMulQ_eq, iNegQ_eq, lenQ_eq, nthQ_eq, setQ_eq, appQ_eq, mapQ_eq, allQ_eq, anyQ_eq, dropQ_eq, takeQ_eq, revQ_eq, getDQ_eq, optLQ_eq, brecC]
    all_goals
      cases hq_1 : (addLe e_1 e_2 ((sbL θ h_0))) with
      | none =>
        try dsimp only [cond_false, cond_true]
        all_goals rfl
      | some y_2587 =>
        try dsimp only [cond_false, cond_true]
        all_goals
          cases y_2587 with
          | mk y_2588 y_2589 =>
            try dsimp only [cond_false, cond_true]
            all_goals rfl
/-- a row that the contract doesn't look into: one number, of its own -/
noncomputable def convC_a0 :=
  fun (kh_2610 : Nat) (y : Nat) => ((.inr ((Nat.add kh_2610 (nat_lit 100)), (.inl [(.inl (sL y))]))) : AC)
noncomputable def convC_a1 :=
  fun (kh_2610 : Nat) (s_2612 : List Sg) (y : Nat) => ((Bool.rec (motive := fun _ => AC) (.inr (kh_2610, (.inl s_2612))) (convC_a0 kh_2610 y) (Nat.blt kh_2610 (nat_lit 100))) : AC)
noncomputable def convC_a2 :=
  fun (kh_2610 : Nat) (s_2612 : List Sg) (y : Nat) (kp_2604 : Nat) => ((Bool.rec (motive := fun _ => AC) (.inr (kh_2610, (.inl s_2612))) (convC_a1 kh_2610 s_2612 y) (Nat.ble (nat_lit 100) kp_2604)) : AC)
noncomputable def convC (y : Nat) (p a : AC) : AC :=
  (Sum.rec (motive := fun _ => AC) (fun x_2602 => a) (fun x_2603 => (Prod.rec (motive := fun _ => AC) (fun kp_2604 x_2605 => (Sum.rec (motive := fun _ => AC) (fun x_2606 => (Sum.rec (motive := fun _ => AC) (fun x_2608 => a) (fun x_2609 => (Prod.rec (motive := fun _ => AC) (fun kh_2610 x_2611 => (Sum.rec (motive := fun _ => AC) (fun s_2612 => (convC_a2 kh_2610 s_2612 y kp_2604)) (fun x_2613 => a) x_2611)) x_2609)) a)) (fun x_2607 => a) x_2605)) x_2603)) p)
theorem convC_def (y : Nat) (p a : AC) : convC y p a = (match p, a with
  | .inr (kp, .inl _), .inr (kh, .inl s) => bif Nat.ble 100 kp then (bif Nat.blt kh 100 then .inr (Nat.add kh 100, .inl [.inl (sL y)]) else .inr (kh, .inl s)) else .inr (kh, .inl s)
  | _, a => a) := by
  show (Sum.rec (motive := fun _ => AC) (fun x_2590 => a) (fun x_2591 => (Prod.rec (motive := fun _ => AC) (fun kp_2592 x_2593 => (Sum.rec (motive := fun _ => AC) (fun x_2594 => (Sum.rec (motive := fun _ => AC) (fun x_2596 => a) (fun x_2597 => (Prod.rec (motive := fun _ => AC) (fun kh_2598 x_2599 => (Sum.rec (motive := fun _ => AC) (fun s_2600 => (Bool.rec (motive := fun _ => AC) (.inr (kh_2598, (.inl s_2600))) (Bool.rec (motive := fun _ => AC) (.inr (kh_2598, (.inl s_2600))) (.inr ((Nat.add kh_2598 (nat_lit 100)), (.inl [(.inl (sL y))]))) (Nat.blt kh_2598 (nat_lit 100))) (Nat.ble (nat_lit 100) kp_2592))) (fun x_2601 => a) x_2599)) x_2597)) a)) (fun x_2595 => a) x_2593)) x_2591)) p) = _
  try simp only [iAddQ_eq, iMulQ_eq, iNegQ_eq, lenQ_eq, nthQ_eq, setQ_eq, appQ_eq, mapQ_eq, allQ_eq, anyQ_eq, dropQ_eq, takeQ_eq, revQ_eq, getDQ_eq, optLQ_eq, brecC]
  all_goals
    cases p with
    | inl y_2614 =>
      try dsimp only [cond_false, cond_true]
      all_goals rfl
    | inr y_2615 =>
      try dsimp only [cond_false, cond_true]
      all_goals
        cases y_2615 with
        | mk y_2616 y_2617 =>
          try dsimp only [cond_false, cond_true]
          all_goals
            cases y_2617 with
            | inl y_2618 =>
              try dsimp only [cond_false, cond_true]
              all_goals
                cases a with
                | inl y_2619 =>
                  try dsimp only [cond_false, cond_true]
                  all_goals rfl
                | inr y_2620 =>
                  try dsimp only [cond_false, cond_true]
                  all_goals
                    cases y_2620 with
                    | mk y_2621 y_2622 =>
                      try dsimp only [cond_false, cond_true]
                      all_goals
                        cases y_2622 with
                        | inl y_2623 =>
                          try dsimp only [cond_false, cond_true]
                          all_goals
                            cases hq_7 : (Nat.ble 100 y_2616) with
                            | false =>
                              try dsimp only [cond_false, cond_true]
                              all_goals rfl
                            | true =>
                              try dsimp only [cond_false, cond_true]
                              all_goals
                                cases hq_8 : (Nat.blt y_2621 100) with
                                | false =>
                                  try dsimp only [cond_false, cond_true]
                                  all_goals rfl
                                | true =>
                                  try dsimp only [cond_false, cond_true]
                                  all_goals rfl
                        | inr y_2624 =>
                          try dsimp only [cond_false, cond_true]
                          all_goals rfl
            | inr y_2625 =>
              try dsimp only [cond_false, cond_true]
              all_goals rfl
noncomputable def convH_a0 :=
  fun (nx : Nat) (e_0 : Nat) (h_0 : AC) (a_2626 : AC) (ih : Nat → AH → AH) (as_2627 : List AC) => (((convC (Nat.add nx e_0) h_0 a_2626) :: (ih (Nat.succ e_0) as_2627)) : AH)
noncomputable def convH (nx : Nat) : Nat → AH → AH → AH :=
  fun e_0 e_1 e_2 => List.rec (motive := fun _ => Nat → AH → AH) (fun e_0 e_2 => e_2) (fun h_0 t_0 ih e_0 e_2 => (List.rec (motive := fun _ => AH) e_2 (fun a_2626 as_2627 _ => (convH_a0 nx e_0 h_0 a_2626 ih as_2627)) e_2)) e_1 e_0 e_2
theorem convH_def (nx : Nat) (e_0 : Nat) (e_1 : AH) (e_2 : AH) : convH nx e_0 e_1 e_2 = (match e_0, e_1, e_2 with
  | i, p :: ps, a :: as => convC (Nat.add nx i) p a :: convH nx (Nat.succ i) ps as
  | _, _, A => A) := by
  cases e_1 with
  | nil =>
    show e_2 = _
    try simp only [iAddQ_eq, iMulQ_eq, iNegQ_eq, lenQ_eq, nthQ_eq, setQ_eq, appQ_eq, mapQ_eq, allQ_eq, anyQ_eq, dropQ_eq, takeQ_eq, revQ_eq, getDQ_eq, optLQ_eq, brecC]
    all_goals rfl
  | cons h_0 t_0 =>
    show (List.rec (motive := fun _ => AH) e_2 (fun a_2628 as_2629 _ => ((convC (Nat.add nx e_0) h_0 a_2628) :: (convH nx (Nat.succ e_0) t_0 as_2629))) e_2) = _
    try simp only [iAddQ_eq, iMulQ_eq, iNegQ_eq, lenQ_eq, nthQ_eq, setQ_eq, appQ_eq, mapQ_eq, allQ_eq, anyQ_eq, dropQ_eq, takeQ_eq, revQ_eq, getDQ_eq, optLQ_eq, brecC]
    all_goals
      cases e_2 with
      | nil =>
        try dsimp only [cond_false, cond_true]
        all_goals rfl
      | cons y_2630 y_2631 =>
        try dsimp only [cond_false, cond_true]
        all_goals rfl
/-- a row that came back as it was, or as another was: what was known of that one -/
noncomputable def resC_a0 :=
  fun (y_2673 : Nat) (nx : Nat) (nI : Nat) => ((Bool.rec (motive := fun _ => Bool) false (Nat.blt (Nat.sub y_2673 nx) nI) (Nat.ble nx y_2673)) : Bool)
noncomputable def resC_a1 :=
  fun (y_2673 : Nat) (nx : Nat) (nI : Nat) (w_2674 : Int) => ((Bool.rec (motive := fun _ => Bool) false (resC_a0 y_2673 nx nI) (eqI w_2674 (.ofNat (nat_lit 1)))) : Bool)
noncomputable def resC_a2 :=
  fun (y_2673 : Nat) (nx : Nat) (nI : Nat) (w_2674 : Int) (z_2669 : Int) => ((Bool.rec (motive := fun _ => Bool) false (resC_a1 y_2673 nx nI w_2674) (isZ z_2669)) : Bool)
noncomputable def resC_a3 :=
  fun kh_2682 (k_2661 : Nat) => ((Nat.beq (Nat.add kh_2682 (nat_lit 100)) k_2661) : Bool)
noncomputable def resC_a4 :=
  fun (c : AC) kh_2682 s_2684 (k_2661 : Nat) => ((Bool.rec (motive := fun _ => AC) c (.inr (kh_2682, (.inl s_2684))) (Bool.rec (motive := fun _ => Bool) false (resC_a3 kh_2682 k_2661) (Nat.blt kh_2682 (nat_lit 100)))) : AC)
noncomputable def resC (nx nI : Nat) (H : AH) (c : AC) : AC :=
  (Sum.rec (motive := fun _ => AC) (fun x_2659 => c) (fun x_2660 => (Prod.rec (motive := fun _ => AC) (fun k_2661 x_2662 => (Sum.rec (motive := fun _ => AC) (fun x_2663 => (List.rec (motive := fun _ => AC) c (fun x_2665 x_2666 _ => (Sum.rec (motive := fun _ => AC) (fun x_2667 => (Prod.rec (motive := fun _ => AC) (fun z_2669 x_2670 => (List.rec (motive := fun _ => AC) c (fun x_2671 x_2672 _ => (Prod.rec (motive := fun _ => AC) (fun y_2673 w_2674 => (List.rec (motive := fun _ => AC) (List.rec (motive := fun _ => AC) (Bool.rec (motive := fun _ => AC) c (Option.rec (motive := fun _ => AC) c (fun x_2679 => (Sum.rec (motive := fun _ => AC) (fun x_2680 => c) (fun x_2681 => (Prod.rec (motive := fun _ => AC) (fun kh_2682 x_2683 => (Sum.rec (motive := fun _ => AC) (fun s_2684 => (resC_a4 c kh_2682 s_2684 k_2661)) (fun x_2685 => c) x_2683)) x_2681)) x_2679)) (nthQ H (Nat.sub y_2673 nx))) (Bool.rec (motive := fun _ => Bool) false (resC_a2 y_2673 nx nI w_2674 z_2669) (Nat.ble (nat_lit 100) k_2661))) (fun x_2677 x_2678 _ => c) x_2666) (fun x_2675 x_2676 _ => c) x_2672)) x_2671)) x_2670)) x_2667)) (fun x_2668 => c) x_2665)) x_2663)) (fun x_2664 => c) x_2662)) x_2660)) c)
theorem resC_def (nx nI : Nat) (H : AH) (c : AC) : resC nx nI H c = (match c with
  | .inr (k, .inl [.inl (z, [(y, w)])]) => bif (bif Nat.ble 100 k then (bif isZ z then (bif eqI w 1 then (bif Nat.ble nx y then Nat.blt (Nat.sub y nx) nI else false) else false) else false) else false) then (match H[Nat.sub y nx]? with
    | some (.inr (kh, .inl s)) => bif (bif Nat.blt kh 100 then Nat.beq (Nat.add kh 100) k else false) then .inr (kh, .inl s) else c
    | _ => c) else c
  | c => c) := by
  show (Sum.rec (motive := fun _ => AC) (fun x_2632 => c) (fun x_2633 => (Prod.rec (motive := fun _ => AC) (fun k_2634 x_2635 => (Sum.rec (motive := fun _ => AC) (fun x_2636 => (List.rec (motive := fun _ => AC) c (fun x_2638 x_2639 _ => (Sum.rec (motive := fun _ => AC) (fun x_2640 => (Prod.rec (motive := fun _ => AC) (fun z_2642 x_2643 => (List.rec (motive := fun _ => AC) c (fun x_2644 x_2645 _ => (Prod.rec (motive := fun _ => AC) (fun y_2646 w_2647 => (List.rec (motive := fun _ => AC) (List.rec (motive := fun _ => AC) (Bool.rec (motive := fun _ => AC) c (Option.rec (motive := fun _ => AC) c (fun x_2652 => (Sum.rec (motive := fun _ => AC) (fun x_2653 => c) (fun x_2654 => (Prod.rec (motive := fun _ => AC) (fun kh_2655 x_2656 => (Sum.rec (motive := fun _ => AC) (fun s_2657 => (Bool.rec (motive := fun _ => AC) c (.inr (kh_2655, (.inl s_2657))) (Bool.rec (motive := fun _ => Bool) false (Nat.beq (Nat.add kh_2655 (nat_lit 100)) k_2634) (Nat.blt kh_2655 (nat_lit 100))))) (fun x_2658 => c) x_2656)) x_2654)) x_2652)) (nthQ H (Nat.sub y_2646 nx))) (Bool.rec (motive := fun _ => Bool) false (Bool.rec (motive := fun _ => Bool) false (Bool.rec (motive := fun _ => Bool) false (Bool.rec (motive := fun _ => Bool) false (Nat.blt (Nat.sub y_2646 nx) nI) (Nat.ble nx y_2646)) (eqI w_2647 (.ofNat (nat_lit 1)))) (isZ z_2642)) (Nat.ble (nat_lit 100) k_2634))) (fun x_2650 x_2651 _ => c) x_2639) (fun x_2648 x_2649 _ => c) x_2645)) x_2644)) x_2643)) x_2640)) (fun x_2641 => c) x_2638)) x_2636)) (fun x_2637 => c) x_2635)) x_2633)) c) = _
  try simp only [iAddQ_eq, iMulQ_eq, iNegQ_eq, lenQ_eq, nthQ_eq, setQ_eq, appQ_eq, mapQ_eq, allQ_eq, anyQ_eq, dropQ_eq, takeQ_eq, revQ_eq, getDQ_eq, optLQ_eq, brecC]
  all_goals
    cases c with
    | inl y_2686 =>
      try dsimp only [cond_false, cond_true]
      all_goals rfl
    | inr y_2687 =>
      try dsimp only [cond_false, cond_true]
      all_goals
        cases y_2687 with
        | mk y_2688 y_2689 =>
          try dsimp only [cond_false, cond_true]
          all_goals
            cases y_2689 with
            | inl y_2690 =>
              try dsimp only [cond_false, cond_true]
              all_goals
                cases y_2690 with
                | nil =>
                  try dsimp only [cond_false, cond_true]
                  all_goals rfl
                | cons y_2691 y_2692 =>
                  try dsimp only [cond_false, cond_true]
                  all_goals
                    cases y_2691 with
                    | inl y_2693 =>
                      try dsimp only [cond_false, cond_true]
                      all_goals
                        cases y_2693 with
                        | mk y_2694 y_2695 =>
                          try dsimp only [cond_false, cond_true]
                          all_goals
                            cases y_2695 with
                            | nil =>
                              try dsimp only [cond_false, cond_true]
                              all_goals rfl
                            | cons y_2696 y_2697 =>
                              try dsimp only [cond_false, cond_true]
                              all_goals
                                cases y_2696 with
                                | mk y_2698 y_2699 =>
                                  try dsimp only [cond_false, cond_true]
                                  all_goals
                                    cases y_2697 with
                                    | nil =>
                                      try dsimp only [cond_false, cond_true]
                                      all_goals
                                        cases y_2692 with
                                        | nil =>
                                          try dsimp only [cond_false, cond_true]
                                          all_goals
                                            cases hq_11 : ((bif (Nat.ble 100 y_2688) then ((bif (isZ y_2694) then ((bif (eqI y_2699 1) then ((bif (Nat.ble nx y_2698) then (Nat.blt ((Nat.sub y_2698 nx)) nI) else false)) else false)) else false)) else false)) with
                                            | false =>
                                              try dsimp only [cond_false, cond_true]
                                              all_goals rfl
                                            | true =>
                                              try dsimp only [cond_false, cond_true]
                                              all_goals
                                                cases hq_12 : H[(Nat.sub y_2698 nx)]? with
                                                | none =>
                                                  try dsimp only [cond_false, cond_true]
                                                  all_goals rfl
                                                | some y_2700 =>
                                                  try dsimp only [cond_false, cond_true]
                                                  all_goals
                                                    cases y_2700 with
                                                    | inl y_2701 =>
                                                      try dsimp only [cond_false, cond_true]
                                                      all_goals rfl
                                                    | inr y_2702 =>
                                                      try dsimp only [cond_false, cond_true]
                                                      all_goals
                                                        cases y_2702 with
                                                        | mk y_2703 y_2704 =>
                                                          try dsimp only [cond_false, cond_true]
                                                          all_goals
                                                            cases y_2704 with
                                                            | inl y_2705 =>
                                                              try dsimp only [cond_false, cond_true]
                                                              all_goals
                                                                cases hq_16 : ((bif (Nat.blt y_2703 100) then (Nat.beq ((Nat.add y_2703 100)) y_2688) else false)) with
                                                                | false =>
                                                                  try dsimp only [cond_false, cond_true]
                                                                  all_goals rfl
                                                                | true =>
                                                                  try dsimp only [cond_false, cond_true]
                                                                  all_goals rfl
                                                            | inr y_2706 =>
                                                              try dsimp only [cond_false, cond_true]
                                                              all_goals rfl
                                        | cons y_2707 y_2708 =>
                                          try dsimp only [cond_false, cond_true]
                                          all_goals rfl
                                    | cons y_2709 y_2710 =>
                                      try dsimp only [cond_false, cond_true]
                                      all_goals rfl
                    | inr y_2711 =>
                      try dsimp only [cond_false, cond_true]
                      all_goals rfl
            | inr y_2712 =>
              try dsimp only [cond_false, cond_true]
              all_goals rfl
/-- the same, the rows found by halves -/
noncomputable def resG_a0 :=
  fun (y_2754 : Nat) (nx : Nat) (nI : Nat) => ((Bool.rec (motive := fun _ => Bool) false (Nat.blt (Nat.sub y_2754 nx) nI) (Nat.ble nx y_2754)) : Bool)
noncomputable def resG_a1 :=
  fun (y_2754 : Nat) (nx : Nat) (nI : Nat) (w_2755 : Int) => ((Bool.rec (motive := fun _ => Bool) false (resG_a0 y_2754 nx nI) (eqI w_2755 (.ofNat (nat_lit 1)))) : Bool)
noncomputable def resG_a2 :=
  fun (y_2754 : Nat) (nx : Nat) (nI : Nat) (w_2755 : Int) (z_2750 : Int) => ((Bool.rec (motive := fun _ => Bool) false (resG_a1 y_2754 nx nI w_2755) (isZ z_2750)) : Bool)
noncomputable def resG_a3 :=
  fun kh_2763 (k_2742 : Nat) => ((Nat.beq (Nat.add kh_2763 (nat_lit 100)) k_2742) : Bool)
noncomputable def resG_a4 :=
  fun (c : AC) kh_2763 s_2765 (k_2742 : Nat) => ((Bool.rec (motive := fun _ => AC) c (.inr (kh_2763, (.inl s_2765))) (Bool.rec (motive := fun _ => Bool) false (resG_a3 kh_2763 k_2742) (Nat.blt kh_2763 (nat_lit 100)))) : AC)
noncomputable def resG (look : Nat → Option AC) (nx nI : Nat) (c : AC) : AC :=
  (Sum.rec (motive := fun _ => AC) (fun x_2740 => c) (fun x_2741 => (Prod.rec (motive := fun _ => AC) (fun k_2742 x_2743 => (Sum.rec (motive := fun _ => AC) (fun x_2744 => (List.rec (motive := fun _ => AC) c (fun x_2746 x_2747 _ => (Sum.rec (motive := fun _ => AC) (fun x_2748 => (Prod.rec (motive := fun _ => AC) (fun z_2750 x_2751 => (List.rec (motive := fun _ => AC) c (fun x_2752 x_2753 _ => (Prod.rec (motive := fun _ => AC) (fun y_2754 w_2755 => (List.rec (motive := fun _ => AC) (List.rec (motive := fun _ => AC) (Bool.rec (motive := fun _ => AC) c (Option.rec (motive := fun _ => AC) c (fun x_2760 => (Sum.rec (motive := fun _ => AC) (fun x_2761 => c) (fun x_2762 => (Prod.rec (motive := fun _ => AC) (fun kh_2763 x_2764 => (Sum.rec (motive := fun _ => AC) (fun s_2765 => (resG_a4 c kh_2763 s_2765 k_2742)) (fun x_2766 => c) x_2764)) x_2762)) x_2760)) (look (Nat.sub y_2754 nx))) (Bool.rec (motive := fun _ => Bool) false (resG_a2 y_2754 nx nI w_2755 z_2750) (Nat.ble (nat_lit 100) k_2742))) (fun x_2758 x_2759 _ => c) x_2747) (fun x_2756 x_2757 _ => c) x_2753)) x_2752)) x_2751)) x_2748)) (fun x_2749 => c) x_2746)) x_2744)) (fun x_2745 => c) x_2743)) x_2741)) c)
theorem resG_def (look : Nat → Option AC) (nx nI : Nat) (c : AC) : resG look nx nI c = (match c with
  | .inr (k, .inl [.inl (z, [(y, w)])]) => bif (bif Nat.ble 100 k then (bif isZ z then (bif eqI w 1 then (bif Nat.ble nx y then Nat.blt (Nat.sub y nx) nI else false) else false) else false) else false) then (match look (Nat.sub y nx) with
    | some (.inr (kh, .inl s)) => bif (bif Nat.blt kh 100 then Nat.beq (Nat.add kh 100) k else false) then .inr (kh, .inl s) else c
    | _ => c) else c
  | c => c) := by
  show (Sum.rec (motive := fun _ => AC) (fun x_2713 => c) (fun x_2714 => (Prod.rec (motive := fun _ => AC) (fun k_2715 x_2716 => (Sum.rec (motive := fun _ => AC) (fun x_2717 => (List.rec (motive := fun _ => AC) c (fun x_2719 x_2720 _ => (Sum.rec (motive := fun _ => AC) (fun x_2721 => (Prod.rec (motive := fun _ => AC) (fun z_2723 x_2724 => (List.rec (motive := fun _ => AC) c (fun x_2725 x_2726 _ => (Prod.rec (motive := fun _ => AC) (fun y_2727 w_2728 => (List.rec (motive := fun _ => AC) (List.rec (motive := fun _ => AC) (Bool.rec (motive := fun _ => AC) c (Option.rec (motive := fun _ => AC) c (fun x_2733 => (Sum.rec (motive := fun _ => AC) (fun x_2734 => c) (fun x_2735 => (Prod.rec (motive := fun _ => AC) (fun kh_2736 x_2737 => (Sum.rec (motive := fun _ => AC) (fun s_2738 => (Bool.rec (motive := fun _ => AC) c (.inr (kh_2736, (.inl s_2738))) (Bool.rec (motive := fun _ => Bool) false (Nat.beq (Nat.add kh_2736 (nat_lit 100)) k_2715) (Nat.blt kh_2736 (nat_lit 100))))) (fun x_2739 => c) x_2737)) x_2735)) x_2733)) (look (Nat.sub y_2727 nx))) (Bool.rec (motive := fun _ => Bool) false (Bool.rec (motive := fun _ => Bool) false (Bool.rec (motive := fun _ => Bool) false (Bool.rec (motive := fun _ => Bool) false (Nat.blt (Nat.sub y_2727 nx) nI) (Nat.ble nx y_2727)) (eqI w_2728 (.ofNat (nat_lit 1)))) (isZ z_2723)) (Nat.ble (nat_lit 100) k_2715))) (fun x_2731 x_2732 _ => c) x_2720) (fun x_2729 x_2730 _ => c) x_2726)) x_2725)) x_2724)) x_2721)) (fun x_2722 => c) x_2719)) x_2717)) (fun x_2718 => c) x_2716)) x_2714)) c) = _
  try simp only [iAddQ_eq, iMulQ_eq, iNegQ_eq, lenQ_eq, nthQ_eq, setQ_eq, appQ_eq, mapQ_eq, allQ_eq, anyQ_eq, dropQ_eq, takeQ_eq, revQ_eq, getDQ_eq, optLQ_eq, brecC]
  all_goals
    cases c with
    | inl y_2767 =>
      try dsimp only [cond_false, cond_true]
      all_goals rfl
    | inr y_2768 =>
      try dsimp only [cond_false, cond_true]
      all_goals
        cases y_2768 with
        | mk y_2769 y_2770 =>
          try dsimp only [cond_false, cond_true]
          all_goals
            cases y_2770 with
            | inl y_2771 =>
              try dsimp only [cond_false, cond_true]
              all_goals
                cases y_2771 with
                | nil =>
                  try dsimp only [cond_false, cond_true]
                  all_goals rfl
                | cons y_2772 y_2773 =>
                  try dsimp only [cond_false, cond_true]
                  all_goals
                    cases y_2772 with
                    | inl y_2774 =>
                      try dsimp only [cond_false, cond_true]
                      all_goals
                        cases y_2774 with
                        | mk y_2775 y_2776 =>
                          try dsimp only [cond_false, cond_true]
                          all_goals
                            cases y_2776 with
                            | nil =>
                              try dsimp only [cond_false, cond_true]
                              all_goals rfl
                            | cons y_2777 y_2778 =>
                              try dsimp only [cond_false, cond_true]
                              all_goals
                                cases y_2777 with
                                | mk y_2779 y_2780 =>
                                  try dsimp only [cond_false, cond_true]
                                  all_goals
                                    cases y_2778 with
                                    | nil =>
                                      try dsimp only [cond_false, cond_true]
                                      all_goals
                                        cases y_2773 with
                                        | nil =>
                                          try dsimp only [cond_false, cond_true]
                                          all_goals
                                            cases hq_11 : ((bif (Nat.ble 100 y_2769) then ((bif (isZ y_2775) then ((bif (eqI y_2780 1) then ((bif (Nat.ble nx y_2779) then (Nat.blt ((Nat.sub y_2779 nx)) nI) else false)) else false)) else false)) else false)) with
                                            | false =>
                                              try dsimp only [cond_false, cond_true]
                                              all_goals rfl
                                            | true =>
                                              try dsimp only [cond_false, cond_true]
                                              all_goals
                                                cases hq_12 : (look ((Nat.sub y_2779 nx))) with
                                                | none =>
                                                  try dsimp only [cond_false, cond_true]
                                                  all_goals rfl
                                                | some y_2781 =>
                                                  try dsimp only [cond_false, cond_true]
                                                  all_goals
                                                    cases y_2781 with
                                                    | inl y_2782 =>
                                                      try dsimp only [cond_false, cond_true]
                                                      all_goals rfl
                                                    | inr y_2783 =>
                                                      try dsimp only [cond_false, cond_true]
                                                      all_goals
                                                        cases y_2783 with
                                                        | mk y_2784 y_2785 =>
                                                          try dsimp only [cond_false, cond_true]
                                                          all_goals
                                                            cases y_2785 with
                                                            | inl y_2786 =>
                                                              try dsimp only [cond_false, cond_true]
                                                              all_goals
                                                                cases hq_16 : ((bif (Nat.blt y_2784 100) then (Nat.beq ((Nat.add y_2784 100)) y_2769) else false)) with
                                                                | false =>
                                                                  try dsimp only [cond_false, cond_true]
                                                                  all_goals rfl
                                                                | true =>
                                                                  try dsimp only [cond_false, cond_true]
                                                                  all_goals rfl
                                                            | inr y_2787 =>
                                                              try dsimp only [cond_false, cond_true]
                                                              all_goals rfl
                                        | cons y_2788 y_2789 =>
                                          try dsimp only [cond_false, cond_true]
                                          all_goals rfl
                                    | cons y_2790 y_2791 =>
                                      try dsimp only [cond_false, cond_true]
                                      all_goals rfl
                    | inr y_2792 =>
                      try dsimp only [cond_false, cond_true]
                      all_goals rfl
            | inr y_2793 =>
              try dsimp only [cond_false, cond_true]
              all_goals rfl
noncomputable def lookZ (f : Nat → AC) (N i : Nat) : Option AC :=
  (Bool.rec (motive := fun _ => Option AC) none (some (f i)) (Nat.blt i N))
theorem lookZ_def (f : Nat → AC) (N i : Nat) : lookZ f N i = bif Nat.blt i N then some (f i) else none := by
  show (Bool.rec (motive := fun _ => Option AC) none (some (f i)) (Nat.blt i N)) = _
  try simp only [iAddQ_eq, iMulQ_eq, iNegQ_eq, lenQ_eq, nthQ_eq, setQ_eq, appQ_eq, mapQ_eq, allQ_eq, anyQ_eq, dropQ_eq, takeQ_eq, revQ_eq, getDQ_eq, optLQ_eq, brecC]
  all_goals
    cases hq_1 : (Nat.blt i N) with
    | false =>
      try dsimp only [cond_false, cond_true]
      all_goals rfl
    | true =>
      try dsimp only [cond_false, cond_true]
      all_goals rfl
noncomputable def resAll_a0 :=
  fun (f_2796 : (Nat → AC)) (H : AH) (nx : Nat) (nI : Nat) (H1 : AH) => ((mapQ (resG (lookZ f_2796 (lenQ H)) nx nI) H1) : AH)
noncomputable def resAll (nx nI : Nat) (H H1 : AH) : AH :=
  (Bool.rec (motive := fun _ => AH) (mapQ (resC nx nI H) H1) (Prod.rec (motive := fun _ => AH) (fun f_2796 x_2797 => (resAll_a0 f_2796 H nx nI H1)) (balZ (lvZ H) H)) (Nat.ble (lenQ H) (Nat.shiftLeft (nat_lit 1) (lvZ H))))
theorem resAll_def (nx nI : Nat) (H H1 : AH) : resAll nx nI H H1 = (bif Nat.ble H.length (Nat.shiftLeft 1 (lvZ H)) then (match balZ (lvZ H) H with
  | (f, _) => H1.map (resG (lookZ f H.length) nx nI)) else H1.map (resC nx nI H)) := by
  show (Bool.rec (motive := fun _ => AH) (mapQ (resC nx nI H) H1) (Prod.rec (motive := fun _ => AH) (fun f_2794 x_2795 => (mapQ (resG (lookZ f_2794 (lenQ H)) nx nI) H1)) (balZ (lvZ H) H)) (Nat.ble (lenQ H) (Nat.shiftLeft (nat_lit 1) (lvZ H)))) = _
  try simp only [iAddQ_eq, iMulQ_eq, iNegQ_eq, lenQ_eq, nthQ_eq, setQ_eq, appQ_eq, mapQ_eq, allQ_eq, anyQ_eq, dropQ_eq, takeQ_eq, revQ_eq, getDQ_eq, optLQ_eq, brecC]
  all_goals
    cases hq_1 : (Nat.ble H.length ((Nat.shiftLeft 1 ((lvZ H))))) with
    | false =>
      try dsimp only [cond_false, cond_true]
      all_goals rfl
    | true =>
      try dsimp only [cond_false, cond_true]
      all_goals
        cases hq_2 : (balZ ((lvZ H)) H) with
        | mk y_2798 y_2799 =>
          try dsimp only [cond_false, cond_true]
          all_goals rfl
theorem lookZ_eq {H : AH} {f : Nat → AC} (hf : ∀ t, t < H.length → f t = H.getD t (.inl (0, []))) : lookZ f H.length = fun i => H[i]? := by
  funext i
  rw [lookZ_def]
  cases hb : Nat.blt i H.length with
  | true =>
    have hk := blt_iff.mp hb
    rw [cond_true, hf i hk, List.getD_eq_getElem?_getD, List.getElem?_eq_getElem hk]
    rfl
  | false =>
    have hk := blt_f hb
    rw [cond_false, List.getElem?_eq_none (by omega)]
theorem resG_eq {H : AH} {nx nI : Nat} (c : AC) : resG (fun i => H[i]?) nx nI c = resC nx nI H c := by
  rw [resG_def, resC_def]
  all_goals first
    | rfl
    | (split <;> rfl)
    | (split <;> split <;> first | rfl | (exfalso; simp_all))
theorem resAll_eq (nx nI : Nat) (H H1 : AH) : resAll nx nI H H1 = H1.map (resC nx nI H) := by
  rw [resAll_def]
  cases hc : Nat.ble H.length (Nat.shiftLeft 1 (lvZ H)) with
  | false => rfl
  | true =>
    have h3 := Nat.le_of_ble_eq_true hc
    rw [show Nat.shiftLeft 1 (lvZ H) = 2 ^ lvZ H from Nat.one_shiftLeft _] at h3
    obtain ⟨-, b2⟩ := balZ_ok (lvZ H) H
    cases hb : balZ (lvZ H) H with
    | mk f r =>
      rw [hb] at b2
      try dsimp only at b2
      show H1.map (resG (lookZ f H.length) nx nI) = _
      rw [lookZ_eq (fun t ht => b2 t (by omega))]
      exact List.map_congr_left fun c _ => resG_eq c
noncomputable def sameA_a0 :=
  fun (e_2832 : Ln) (e_2844 : Ln) => ((Bool.rec (motive := fun _ => Bool) false (eqT e_2832.2 e_2844.2) (eqI e_2832.1 e_2844.1)) : Bool)
noncomputable def sameA_a1 :=
  fun (e_2832 : Ln) (e_2844 : Ln) (k_2838 : Nat) => ((Bool.rec (motive := fun _ => Bool) false (sameA_a0 e_2832 e_2844) (Nat.ble (nat_lit 100) k_2838)) : Bool)
noncomputable def sameA_a2 :=
  fun (e_2832 : Ln) (e_2844 : Ln) (k_2838 : Nat) (k_2826 : Nat) => ((Bool.rec (motive := fun _ => Bool) false (sameA_a1 e_2832 e_2844 k_2838) (Nat.ble (nat_lit 100) k_2826)) : Bool)
noncomputable def sameA (a b : AC) : Bool :=
  (Sum.rec (motive := fun _ => Bool) (fun x_2824 => false) (fun x_2825 => (Prod.rec (motive := fun _ => Bool) (fun k_2826 x_2827 => (Sum.rec (motive := fun _ => Bool) (fun x_2828 => (List.rec (motive := fun _ => Bool) false (fun x_2830 x_2831 _ => (Sum.rec (motive := fun _ => Bool) (fun e_2832 => (List.rec (motive := fun _ => Bool) (Sum.rec (motive := fun _ => Bool) (fun x_2836 => false) (fun x_2837 => (Prod.rec (motive := fun _ => Bool) (fun k_2838 x_2839 => (Sum.rec (motive := fun _ => Bool) (fun x_2840 => (List.rec (motive := fun _ => Bool) false (fun x_2842 x_2843 _ => (Sum.rec (motive := fun _ => Bool) (fun e_2844 => (List.rec (motive := fun _ => Bool) (sameA_a2 e_2832 e_2844 k_2838 k_2826) (fun x_2846 x_2847 _ => false) x_2843)) (fun x_2845 => false) x_2842)) x_2840)) (fun x_2841 => false) x_2839)) x_2837)) b) (fun x_2834 x_2835 _ => false) x_2831)) (fun x_2833 => false) x_2830)) x_2828)) (fun x_2829 => false) x_2827)) x_2825)) a)
theorem sameA_def (a b : AC) : sameA a b = (match a, b with
  | .inr (k, .inl [.inl e]), .inr (k', .inl [.inl e']) => bif Nat.ble 100 k then (bif Nat.ble 100 k' then (bif eqI e.1 e'.1 then eqT e.2 e'.2 else false) else false) else false
  | _, _ => false) := by
  show (Sum.rec (motive := fun _ => Bool) (fun x_2800 => false) (fun x_2801 => (Prod.rec (motive := fun _ => Bool) (fun k_2802 x_2803 => (Sum.rec (motive := fun _ => Bool) (fun x_2804 => (List.rec (motive := fun _ => Bool) false (fun x_2806 x_2807 _ => (Sum.rec (motive := fun _ => Bool) (fun e_2808 => (List.rec (motive := fun _ => Bool) (Sum.rec (motive := fun _ => Bool) (fun x_2812 => false) (fun x_2813 => (Prod.rec (motive := fun _ => Bool) (fun k_2814 x_2815 => (Sum.rec (motive := fun _ => Bool) (fun x_2816 => (List.rec (motive := fun _ => Bool) false (fun x_2818 x_2819 _ => (Sum.rec (motive := fun _ => Bool) (fun e_2820 => (List.rec (motive := fun _ => Bool) (Bool.rec (motive := fun _ => Bool) false (Bool.rec (motive := fun _ => Bool) false (Bool.rec (motive := fun _ => Bool) false (eqT e_2808.2 e_2820.2) (eqI e_2808.1 e_2820.1)) (Nat.ble (nat_lit 100) k_2814)) (Nat.ble (nat_lit 100) k_2802)) (fun x_2822 x_2823 _ => false) x_2819)) (fun x_2821 => false) x_2818)) x_2816)) (fun x_2817 => false) x_2815)) x_2813)) b) (fun x_2810 x_2811 _ => false) x_2807)) (fun x_2809 => false) x_2806)) x_2804)) (fun x_2805 => false) x_2803)) x_2801)) a) = _
  try simp only [iAddQ_eq, iMulQ_eq, iNegQ_eq, lenQ_eq, nthQ_eq, setQ_eq, appQ_eq, mapQ_eq, allQ_eq, anyQ_eq, dropQ_eq, takeQ_eq, revQ_eq, getDQ_eq, optLQ_eq, brecC]
  all_goals
    cases a with
    | inl y_2848 =>
      try dsimp only [cond_false, cond_true]
      all_goals rfl
    | inr y_2849 =>
      try dsimp only [cond_false, cond_true]
      all_goals
        cases y_2849 with
        | mk y_2850 y_2851 =>
          try dsimp only [cond_false, cond_true]
          all_goals
            cases y_2851 with
            | inl y_2852 =>
              try dsimp only [cond_false, cond_true]
              all_goals
                cases y_2852 with
                | nil =>
                  try dsimp only [cond_false, cond_true]
                  all_goals rfl
                | cons y_2853 y_2854 =>
                  try dsimp only [cond_false, cond_true]
                  all_goals
                    cases y_2853 with
                    | inl y_2855 =>
                      try dsimp only [cond_false, cond_true]
                      all_goals
                        cases y_2854 with
                        | nil =>
                          try dsimp only [cond_false, cond_true]
                          all_goals
                            cases b with
                            | inl y_2856 =>
                              try dsimp only [cond_false, cond_true]
                              all_goals rfl
                            | inr y_2857 =>
                              try dsimp only [cond_false, cond_true]
                              all_goals
                                cases y_2857 with
                                | mk y_2858 y_2859 =>
                                  try dsimp only [cond_false, cond_true]
                                  all_goals
                                    cases y_2859 with
                                    | inl y_2860 =>
                                      try dsimp only [cond_false, cond_true]
                                      all_goals
                                        cases y_2860 with
                                        | nil =>
                                          try dsimp only [cond_false, cond_true]
                                          all_goals rfl
                                        | cons y_2861 y_2862 =>
                                          try dsimp only [cond_false, cond_true]
                                          all_goals
                                            cases y_2861 with
                                            | inl y_2863 =>
                                              try dsimp only [cond_false, cond_true]
                                              all_goals
                                                cases y_2862 with
                                                | nil =>
                                                  try dsimp only [cond_false, cond_true]
                                                  all_goals
                                                    cases hq_13 : (Nat.ble 100 y_2850) with
                                                    | false =>
                                                      try dsimp only [cond_false, cond_true]
                                                      all_goals rfl
                                                    | true =>
                                                      try dsimp only [cond_false, cond_true]
                                                      all_goals
                                                        cases hq_14 : (Nat.ble 100 y_2858) with
                                                        | false =>
                                                          try dsimp only [cond_false, cond_true]
                                                          all_goals rfl
                                                        | true =>
                                                          try dsimp only [cond_false, cond_true]
                                                          all_goals
                                                            cases hq_15 : (eqI y_2855.1 y_2863.1) with
                                                            | false =>
                                                              try dsimp only [cond_false, cond_true]
                                                              all_goals rfl
                                                            | true =>
                                                              try dsimp only [cond_false, cond_true]
                                                              all_goals rfl
                                                | cons y_2864 y_2865 =>
                                                  try dsimp only [cond_false, cond_true]
                                                  all_goals rfl
                                            | inr y_2866 =>
                                              try dsimp only [cond_false, cond_true]
                                              all_goals rfl
                                    | inr y_2867 =>
                                      try dsimp only [cond_false, cond_true]
                                      all_goals rfl
                        | cons y_2868 y_2869 =>
                          try dsimp only [cond_false, cond_true]
                          all_goals rfl
                    | inr y_2870 =>
                      try dsimp only [cond_false, cond_true]
                      all_goals rfl
            | inr y_2871 =>
              try dsimp only [cond_false, cond_true]
              all_goals rfl
noncomputable def getC (H : AH) (i : Nat) : AC :=
  (getDQ H i (.inl ((nat_lit 0), [])))
theorem getC_def (H : AH) (i : Nat) : getC H i = H.getD i (.inl (0, [])) := by
  show (getDQ H i (.inl ((nat_lit 0), []))) = _
  try simp only [iAddQ_eq, iMulQ_eq, iNegQ_eq, lenQ_eq, nthQ_eq, setQ_eq, appQ_eq, mapQ_eq, allQ_eq, anyQ_eq, dropQ_eq, takeQ_eq, revQ_eq, getDQ_eq, optLQ_eq, brecC]
  all_goals rfl
noncomputable def okP_a0 :=
  fun (H' : AH) (h_0 : Nat) (I : List Nat) (H1 : AH) => ((sameA (getC H' (ixA h_0 I)) (getC H1 (ixA h_0 I))) : Bool)
noncomputable def okP_a1 :=
  fun (ih : Bool) (h_0 : Nat) (n : Nat) (H' : AH) (I : List Nat) (H1 : AH) => ((Bool.rec (motive := fun _ => Bool) false (ih) (Bool.rec (motive := fun _ => Bool) (Nat.blt h_0 n) (okP_a0 H' h_0 I H1) (memN h_0 I))) : Bool)
noncomputable def okP (I : List Nat) (n : Nat) (H' H1 : AH) : List Nat → Bool :=
  fun e_0 => List.rec (motive := fun _ => Bool) true (fun h_0 t_0 ih => (okP_a1 ih h_0 n H' I H1)) e_0 
theorem okP_def (I : List Nat) (n : Nat) (H' H1 : AH) (e_0 : List Nat) : okP I n H' H1 e_0 = (match e_0 with
  | [] => true
  | c :: r => bif (bif memN c I then sameA (getC H' (ixA c I)) (getC H1 (ixA c I)) else Nat.blt c n) then okP I n H' H1 r else false) := by
  cases e_0 with
  | nil =>
    show true = _
    try simp only [iAddQ_eq, iMulQ_eq, iNegQ_eq, lenQ_eq, nthQ_eq, setQ_eq, appQ_eq, mapQ_eq, allQ_eq, anyQ_eq, dropQ_eq, takeQ_eq, revQ_eq, getDQ_eq, optLQ_eq, brecC]
    all_goals rfl
  | cons h_0 t_0 =>
    show (Bool.rec (motive := fun _ => Bool) false (okP I n H' H1 t_0) (Bool.rec (motive := fun _ => Bool) (Nat.blt h_0 n) (sameA (getC H' (ixA h_0 I)) (getC H1 (ixA h_0 I))) (memN h_0 I))) = _
    try simp only [iAddQ_eq, iMulQ_eq, iNegQ_eq, lenQ_eq, nthQ_eq, setQ_eq, appQ_eq, mapQ_eq, allQ_eq, anyQ_eq, dropQ_eq, takeQ_eq, revQ_eq, getDQ_eq, optLQ_eq, brecC]
    all_goals
      cases hq_1 : ((bif (memN h_0 I) then (sameA ((getC H' ((ixA h_0 I)))) ((getC H1 ((ixA h_0 I))))) else (Nat.blt h_0 n))) with
      | false =>
        try dsimp only [cond_false, cond_true]
        all_goals rfl
      | true =>
        try dsimp only [cond_false, cond_true]
        all_goals rfl
noncomputable def prSame_a0 :=
  fun (ih : List PD) (h_0 : PD) (I : List Nat) (n : Nat) (H' : AH) (H1 : AH) => ((Bool.rec (motive := fun _ => List PD) (ih) (h_0 :: (ih)) (okP I n H' H1 h_0.2.1)) : List PD)
noncomputable def prSame (I : List Nat) (n : Nat) (H' H1 : AH) : List PD → List PD :=
  fun e_0 => List.rec (motive := fun _ => List PD) [] (fun h_0 t_0 ih => (prSame_a0 ih h_0 I n H' H1)) e_0 
theorem prSame_def (I : List Nat) (n : Nat) (H' H1 : AH) (e_0 : List PD) : prSame I n H' H1 e_0 = (match e_0 with
  | [] => []
  | p :: r => bif okP I n H' H1 p.2.1 then p :: prSame I n H' H1 r else prSame I n H' H1 r) := by
  cases e_0 with
  | nil =>
    show [] = _
    try simp only [iAddQ_eq, iMulQ_eq, iNegQ_eq, lenQ_eq, nthQ_eq, setQ_eq, appQ_eq, mapQ_eq, allQ_eq, anyQ_eq, dropQ_eq, takeQ_eq, revQ_eq, getDQ_eq, optLQ_eq, brecC]
    all_goals rfl
  | cons h_0 t_0 =>
    show (Bool.rec (motive := fun _ => List PD) (prSame I n H' H1 t_0) (h_0 :: (prSame I n H' H1 t_0)) (okP I n H' H1 h_0.2.1)) = _
    try simp only [iAddQ_eq, iMulQ_eq, iNegQ_eq, lenQ_eq, nthQ_eq, setQ_eq, appQ_eq, mapQ_eq, allQ_eq, anyQ_eq, dropQ_eq, takeQ_eq, revQ_eq, getDQ_eq, optLQ_eq, brecC]
    all_goals
      cases hq_1 : (okP I n H' H1 h_0.2.1) with
      | false =>
        try dsimp only [cond_false, cond_true]
        all_goals rfl
      | true =>
        try dsimp only [cond_false, cond_true]
        all_goals rfl
noncomputable def copyTo_a0 :=
  fun (ih : AH → List PD) (H1_2873 : List AC) (kd : Nat) (h_0 : Nat) (ns : List Ln) (c : AC) (h_2872 : AC) => ((Bool.rec (motive := fun _ => List PD) (ih H1_2873) ((kd, [h_0], ns) :: (ih H1_2873)) (sameA c h_2872)) : List PD)
noncomputable def copyTo (kd : Nat) (ns : List Ln) (c : AC) : List Nat → AH → List PD :=
  fun e_0 e_1 => List.rec (motive := fun _ => AH → List PD) (fun e_1 => []) (fun h_0 t_0 ih e_1 => (List.rec (motive := fun _ => List PD) [] (fun h_2872 H1_2873 _ => (copyTo_a0 ih H1_2873 kd h_0 ns c h_2872)) e_1)) e_0 e_1
theorem copyTo_def (kd : Nat) (ns : List Ln) (c : AC) (e_0 : List Nat) (e_1 : AH) : copyTo kd ns c e_0 e_1 = (match e_0, e_1 with
  | i :: I, h :: H1 => bif sameA c h then (kd, [i], ns) :: copyTo kd ns c I H1 else copyTo kd ns c I H1
  | _, _ => []) := by
  cases e_0 with
  | nil =>
    show [] = _
    try simp only [iAddQ_eq, iMulQ_eq, iNegQ_eq, lenQ_eq, nthQ_eq, setQ_eq, appQ_eq, mapQ_eq, allQ_eq, anyQ_eq, dropQ_eq, takeQ_eq, revQ_eq, getDQ_eq, optLQ_eq, brecC]
    all_goals rfl
  | cons h_0 t_0 =>
    show (List.rec (motive := fun _ => List PD) [] (fun h_2874 H1_2875 _ => (Bool.rec (motive := fun _ => List PD) (copyTo kd ns c t_0 H1_2875) ((kd, [h_0], ns) :: (copyTo kd ns c t_0 H1_2875)) (sameA c h_2874))) e_1) = _
    try simp only [iAddQ_eq, iMulQ_eq, iNegQ_eq, lenQ_eq, nthQ_eq, setQ_eq, appQ_eq, mapQ_eq, allQ_eq, anyQ_eq, dropQ_eq, takeQ_eq, revQ_eq, getDQ_eq, optLQ_eq, brecC]
    all_goals
      cases e_1 with
      | nil =>
        try dsimp only [cond_false, cond_true]
        all_goals rfl
      | cons y_2876 y_2877 =>
        try dsimp only [cond_false, cond_true]
        all_goals
          cases hq_2 : (sameA c y_2876) with
          | false =>
            try dsimp only [cond_false, cond_true]
            all_goals rfl
          | true =>
            try dsimp only [cond_false, cond_true]
            all_goals rfl
noncomputable def prCopy_a0 :=
  fun (h_0 : PD) (H' : AH) (q_2878 : Nat) (I : List Nat) (H1 : AH) (ih : List PD) => ((appQ (copyTo h_0.1 h_0.2.2 (getC H' (ixA q_2878 I)) I H1) (ih)) : List PD)
noncomputable def prCopy_a1 :=
  fun (ih : List PD) (h_0 : PD) (H' : AH) (q_2878 : Nat) (I : List Nat) (H1 : AH) => ((Bool.rec (motive := fun _ => List PD) (ih) (prCopy_a0 h_0 H' q_2878 I H1 ih) (memN q_2878 I)) : List PD)
noncomputable def prCopy (I : List Nat) (H' H1 : AH) : List PD → List PD :=
  fun e_0 => List.rec (motive := fun _ => List PD) [] (fun h_0 t_0 ih => (List.rec (motive := fun _ => List PD) (ih) (fun q_2878 x_2879 _ => (List.rec (motive := fun _ => List PD) (prCopy_a1 ih h_0 H' q_2878 I H1) (fun x_2880 x_2881 _ => (ih)) x_2879)) h_0.2.1)) e_0 
theorem prCopy_def (I : List Nat) (H' H1 : AH) (e_0 : List PD) : prCopy I H' H1 e_0 = (match e_0 with
  | [] => []
  | p :: r => match p.2.1 with
    | [q] => bif memN q I then copyTo p.1 p.2.2 (getC H' (ixA q I)) I H1 ++ prCopy I H' H1 r else prCopy I H' H1 r
    | _ => prCopy I H' H1 r) := by
  cases e_0 with
  | nil =>
    show [] = _
    try simp only [iAddQ_eq, iMulQ_eq, iNegQ_eq, lenQ_eq, nthQ_eq, setQ_eq, appQ_eq, mapQ_eq, allQ_eq, anyQ_eq, dropQ_eq, takeQ_eq, revQ_eq, getDQ_eq, optLQ_eq, brecC]
    all_goals rfl
  | cons h_0 t_0 =>
    show (List.rec (motive := fun _ => List PD) (prCopy I H' H1 t_0) (fun q_2882 x_2883 _ => (List.rec (motive := fun _ => List PD) (Bool.rec (motive := fun _ => List PD) (prCopy I H' H1 t_0) (appQ (copyTo h_0.1 h_0.2.2 (getC H' (ixA q_2882 I)) I H1) (prCopy I H' H1 t_0)) (memN q_2882 I)) (fun x_2884 x_2885 _ => (prCopy I H' H1 t_0)) x_2883)) h_0.2.1) = _
    try simp only [iAddQ_eq, iMulQ_eq, iNegQ_eq, lenQ_eq, nthQ_eq, setQ_eq, appQ_eq, mapQ_eq, allQ_eq, anyQ_eq, dropQ_eq, takeQ_eq, revQ_eq, getDQ_eq, optLQ_eq, brecC]
    all_goals
      cases hq_1 : h_0.2.1 with
      | nil =>
        try dsimp only [cond_false, cond_true]
        all_goals rfl
      | cons y_2886 y_2887 =>
        try dsimp only [cond_false, cond_true]
        all_goals
          cases y_2887 with
          | nil =>
            try dsimp only [cond_false, cond_true]
            all_goals
              cases hq_3 : (memN y_2886 I) with
              | false =>
                try dsimp only [cond_false, cond_true]
                all_goals rfl
              | true =>
                try dsimp only [cond_false, cond_true]
                all_goals rfl
          | cons y_2888 y_2889 =>
            try dsimp only [cond_false, cond_true]
            all_goals rfl
noncomputable def prSb (θ : Th) (pr : List PD) : List PD :=
  (mapQ (fun p => (p.1, p.2.1, (mapQ (sbL θ) p.2.2))) pr)
theorem prSb_def (θ : Th) (pr : List PD) : prSb θ pr = pr.map (fun p => (p.1, p.2.1, p.2.2.map (sbL θ))) := by
  show (mapQ (fun p => (p.1, p.2.1, (mapQ (sbL θ) p.2.2))) pr) = _
  try simp only [iAddQ_eq, iMulQ_eq, iNegQ_eq, lenQ_eq, nthQ_eq, setQ_eq, appQ_eq, mapQ_eq, allQ_eq, anyQ_eq, dropQ_eq, takeQ_eq, revQ_eq, getDQ_eq, optLQ_eq, brecC]
  all_goals rfl
noncomputable def outK_a0 :=
  fun (A : AH) (H1 : AH) => ((Nat.blt (Nat.add (lenQ A) (lenQ H1)) sIdx) : Bool)
noncomputable def outK_a1 :=
  fun (A : AH) (H1 : AH) => ((Bool.rec (motive := fun _ => Bool) false (outK_a0 A H1) (allQ (okCA (lenQ A)) A)) : Bool)
noncomputable def outK_a2 :=
  fun (k : KK) (pc : Nat) (θo : Th) (o : Ot) (rest : List AV) (lv : AL) (A : AH) (I : List Nat) (nx : Nat) (H : AH) (H1 : AH) (H' : AH) (pr : List PD) (pnx : Nat) (tab2 : Tb) (fs2 : List Ln) (ca : Nat) (cb : Nat) => ((k (Nat.add pc (nat_lit 3)) (appQ (mapQ (sbV θo) o.1.2.2.2.1) rest) lv (aPasteZ A I (resAll nx (lenQ I) H H1)) (appQ (prSame I (lenQ A) H' H1 pr) (appQ (prCopy I H' H1 pr) (prBack I (lenQ A) (lenQ H1) (prSb θo o.1.2.2.2.2.2)))) (Nat.add (Nat.add nx (lenQ I)) (Nat.sub o.1.1 pnx)) tab2 fs2 (Nat.add ca o.2.1) (Nat.add cb o.2.2)) : Bool)
noncomputable def outK_a3 :=
  fun (k : KK) (pc : Nat) (θo : Th) (o : Ot) (rest : List AV) (lv : AL) (A : AH) (I : List Nat) (nx : Nat) (H : AH) (H1 : AH) (H' : AH) (pr : List PD) (pnx : Nat) (tab2 : Tb) (fs2 : List Ln) (ca : Nat) (cb : Nat) => ((Bool.rec (motive := fun _ => Bool) false (outK_a2 k pc θo o rest lv A I nx H H1 H' pr pnx tab2 fs2 ca cb) (Bool.rec (motive := fun _ => Bool) (outK_a1 A H1) true (Nat.beq (lenQ H1) (lenQ I)))) : Bool)
noncomputable def outK_a4 :=
  fun (k : KK) (pc : Nat) (θo : Th) (o : Ot) (rest : List AV) (lv : AL) (A : AH) (I : List Nat) (nx : Nat) (H : AH) (H1 : AH) (H' : AH) (pr : List PD) (pnx : Nat) (tab2 : Tb) (fs2 : List Ln) (ca : Nat) (cb : Nat) => ((Bool.rec (motive := fun _ => Bool) false (outK_a3 k pc θo o rest lv A I nx H H1 H' pr pnx tab2 fs2 ca cb) (allQ (okCA (lenQ H1)) H1)) : Bool)
noncomputable def outK (k : KK) (pc : Nat) (rest : List AV) (lv : AL) (A : AH) (pr : List PD) (nx : Nat) (ca cb : Nat) (θo : Th) (I : List Nat) (H H' : AH) (pnx : Nat) (o : Ot) (tab2 : Tb) (fs2 : List Ln) (H1 : AH) : Bool :=
  (Bool.rec (motive := fun _ => Bool) false (outK_a4 k pc θo o rest lv A I nx H H1 H' pr pnx tab2 fs2 ca cb) (Nat.ble (lenQ I) (lenQ H1)))
theorem outK_def (k : KK) (pc : Nat) (rest : List AV) (lv : AL) (A : AH) (pr : List PD) (nx : Nat) (ca cb : Nat) (θo : Th) (I : List Nat) (H H' : AH) (pnx : Nat) (o : Ot) (tab2 : Tb) (fs2 : List Ln) (H1 : AH) : outK k pc rest lv A pr nx ca cb θo I H H' pnx o tab2 fs2 H1 = bif Nat.ble I.length H1.length then (bif H1.all (okCA H1.length) then (bif (bif Nat.beq H1.length I.length then true else bif A.all (okCA A.length) then Nat.blt (Nat.add A.length H1.length) sIdx else false) then k (Nat.add pc 3) (o.1.2.2.2.1.map (sbV θo) ++ rest) lv (aPasteZ A I (resAll nx I.length H H1)) (prSame I A.length H' H1 pr ++ (prCopy I H' H1 pr ++ prBack I A.length H1.length (prSb θo o.1.2.2.2.2.2))) (Nat.add (Nat.add nx I.length) (Nat.sub o.1.1 pnx)) tab2 fs2 (Nat.add ca o.2.1) (Nat.add cb o.2.2) else false) else false) else false := by
  show (Bool.rec (motive := fun _ => Bool) false (Bool.rec (motive := fun _ => Bool) false (Bool.rec (motive := fun _ => Bool) false (k (Nat.add pc (nat_lit 3)) (appQ (mapQ (sbV θo) o.1.2.2.2.1) rest) lv (aPasteZ A I (resAll nx (lenQ I) H H1)) (appQ (prSame I (lenQ A) H' H1 pr) (appQ (prCopy I H' H1 pr) (prBack I (lenQ A) (lenQ H1) (prSb θo o.1.2.2.2.2.2)))) (Nat.add (Nat.add nx (lenQ I)) (Nat.sub o.1.1 pnx)) tab2 fs2 (Nat.add ca o.2.1) (Nat.add cb o.2.2)) (Bool.rec (motive := fun _ => Bool) (Bool.rec (motive := fun _ => Bool) false (Nat.blt (Nat.add (lenQ A) (lenQ H1)) sIdx) (allQ (okCA (lenQ A)) A)) true (Nat.beq (lenQ H1) (lenQ I)))) (allQ (okCA (lenQ H1)) H1)) (Nat.ble (lenQ I) (lenQ H1))) = _
  try simp only [iAddQ_eq, iMulQ_eq, iNegQ_eq, lenQ_eq, nthQ_eq, setQ_eq, appQ_eq, mapQ_eq, allQ_eq, anyQ_eq, dropQ_eq, takeQ_eq, revQ_eq, getDQ_eq, optLQ_eq, brecC]
  all_goals
    cases hq_1 : (Nat.ble I.length H1.length) with
    | false =>
      try dsimp only [cond_false, cond_true]
      all_goals rfl
    | true =>
      try dsimp only [cond_false, cond_true]
      all_goals
        cases hq_2 : (H1.all ((okCA H1.length))) with
        | false =>
          try dsimp only [cond_false, cond_true]
          all_goals rfl
        | true =>
          try dsimp only [cond_false, cond_true]
          all_goals
            cases hq_3 : ((bif (Nat.beq H1.length I.length) then true else (bif (A.all ((okCA A.length))) then (Nat.blt ((Nat.add A.length H1.length)) sIdx) else false))) with
            | false =>
              try dsimp only [cond_false, cond_true]
              all_goals rfl
            | true =>
              try dsimp only [cond_false, cond_true]
              all_goals rfl
noncomputable def outA_a0 :=
  fun (k : KK) (pc : Nat) (rest : List AV) (lv : AL) (A : AH) (pr : List PD) (nx : Nat) (ca : Nat) (cb : Nat) (θ : Th) (I : List Nat) (pnx : Nat) (H : AH) (H' : AH) (o : Ot) (tab2_2900 : Tb) (fs2_2901 : List Ln) => ((outK k pc rest lv A pr nx ca cb (thN θ (Nat.add nx (lenQ I)) pnx) I H H' pnx o tab2_2900 fs2_2901 (mapQ (sbC (thN θ (Nat.add nx (lenQ I)) pnx)) o.1.2.2.2.2.1)) : Bool)
noncomputable def outA (k : KK) (pc : Nat) (rest : List AV) (lv : AL) (A : AH) (pr : List PD) (nx : Nat) (tab : Tb) (fs : List Ln) (ca cb : Nat) (θ : Th) (I : List Nat) (H H' : AH) (pnx : Nat) (o : Ot) : Bool :=
  (Option.rec (motive := fun _ => Bool) true (fun x_2896 => (Prod.rec (motive := fun _ => Bool) (fun tab1_2897 fs1_2898 => (Option.rec (motive := fun _ => Bool) true (fun x_2899 => (Prod.rec (motive := fun _ => Bool) (fun tab2_2900 fs2_2901 => (outA_a0 k pc rest lv A pr nx ca cb θ I pnx H H' o tab2_2900 fs2_2901)) x_2899)) (addF' (thN θ (Nat.add nx (lenQ I)) pnx) o.1.2.2.1 (tbO tab1_2897 (Nat.add nx (lenQ I)) pnx o.1.1 o.1.2.1) fs1_2898))) x_2896)) (addT' θ pnx o.1.2.1 tab fs))
theorem outA_def (k : KK) (pc : Nat) (rest : List AV) (lv : AL) (A : AH) (pr : List PD) (nx : Nat) (tab : Tb) (fs : List Ln) (ca cb : Nat) (θ : Th) (I : List Nat) (H H' : AH) (pnx : Nat) (o : Ot) : outA k pc rest lv A pr nx tab fs ca cb θ I H H' pnx o = (match addT' θ pnx o.1.2.1 tab fs with
  | none => true
  | some (tab1, fs1) => match addF' (thN θ (Nat.add nx I.length) pnx) o.1.2.2.1 (tbO tab1 (Nat.add nx I.length) pnx o.1.1 o.1.2.1) fs1 with
    | none => true
    | some (tab2, fs2) => outK k pc rest lv A pr nx ca cb (thN θ (Nat.add nx I.length) pnx) I H H' pnx o tab2 fs2 (o.1.2.2.2.2.1.map (sbC (thN θ (Nat.add nx I.length) pnx)))) := by
  show (Option.rec (motive := fun _ => Bool) true (fun x_2890 => (Prod.rec (motive := fun _ => Bool) (fun tab1_2891 fs1_2892 => (Option.rec (motive := fun _ => Bool) true (fun x_2893 => (Prod.rec (motive := fun _ => Bool) (fun tab2_2894 fs2_2895 => (outK k pc rest lv A pr nx ca cb (thN θ (Nat.add nx (lenQ I)) pnx) I H H' pnx o tab2_2894 fs2_2895 (mapQ (sbC (thN θ (Nat.add nx (lenQ I)) pnx)) o.1.2.2.2.2.1))) x_2893)) (addF' (thN θ (Nat.add nx (lenQ I)) pnx) o.1.2.2.1 (tbO tab1_2891 (Nat.add nx (lenQ I)) pnx o.1.1 o.1.2.1) fs1_2892))) x_2890)) (addT' θ pnx o.1.2.1 tab fs)) = _
  try simp only [iAddQ_eq, iMulQ_eq, iNegQ_eq, lenQ_eq, nthQ_eq, setQ_eq, appQ_eq, mapQ_eq, allQ_eq, anyQ_eq, dropQ_eq, takeQ_eq, revQ_eq, getDQ_eq, optLQ_eq, brecC]
  all_goals
    cases hq_1 : (addT' θ pnx o.1.2.1 tab fs) with
    | none =>
      try dsimp only [cond_false, cond_true]
      all_goals rfl
    | some y_2902 =>
      try dsimp only [cond_false, cond_true]
      all_goals
        cases y_2902 with
        | mk y_2903 y_2904 =>
          try dsimp only [cond_false, cond_true]
          all_goals
            cases hq_3 : (addF' ((thN θ ((Nat.add nx I.length)) pnx)) o.1.2.2.1 ((tbO y_2903 ((Nat.add nx I.length)) pnx o.1.1 o.1.2.1)) y_2904) with
            | none =>
              try dsimp only [cond_false, cond_true]
              all_goals rfl
            | some y_2905 =>
              try dsimp only [cond_false, cond_true]
              all_goals
                cases y_2905 with
                | mk y_2906 y_2907 =>
                  try dsimp only [cond_false, cond_true]
                  all_goals rfl
noncomputable def outAll_a0 :=
  fun (ih : Bool) (k : Ot → Bool) (h_0 : Ot) => ((Bool.rec (motive := fun _ => Bool) false (ih) (k h_0)) : Bool)
noncomputable def outAll (k : Ot → Bool) : List Ot → Bool :=
  fun e_0 => List.rec (motive := fun _ => Bool) true (fun h_0 t_0 ih => (outAll_a0 ih k h_0)) e_0 
theorem outAll_def (k : Ot → Bool) (e_0 : List Ot) : outAll k e_0 = (match e_0 with
  | [] => true
  | o :: r => bif k o then outAll k r else false) := by
  cases e_0 with
  | nil =>
    show true = _
    try simp only [iAddQ_eq, iMulQ_eq, iNegQ_eq, lenQ_eq, nthQ_eq, setQ_eq, appQ_eq, mapQ_eq, allQ_eq, anyQ_eq, dropQ_eq, takeQ_eq, revQ_eq, getDQ_eq, optLQ_eq, brecC]
    all_goals rfl
  | cons h_0 t_0 =>
    show (Bool.rec (motive := fun _ => Bool) false (outAll k t_0) (k h_0)) = _
    try simp only [iAddQ_eq, iMulQ_eq, iNegQ_eq, lenQ_eq, nthQ_eq, setQ_eq, appQ_eq, mapQ_eq, allQ_eq, anyQ_eq, dropQ_eq, takeQ_eq, revQ_eq, getDQ_eq, optLQ_eq, brecC]
    all_goals
      cases hq_1 : (k h_0) with
      | false =>
        try dsimp only [cond_false, cond_true]
        all_goals rfl
      | true =>
        try dsimp only [cond_false, cond_true]
        all_goals rfl
noncomputable def oneCt_a0 :=
  fun (k : KK) (pc : Nat) (rest : List AV) (lv : AL) (A : AH) (pr : List PD) (nx : Nat) (tab : Tb) (fs : List Ln) (ca : Nat) (cb : Nat) (θ : Th) (I : List Nat) (H : AH) (H' : AH) (C : Ct) => (outAll (outA k pc rest lv A pr nx tab fs ca cb θ I H H' C.2.2.1.1) C.2.2.2)
noncomputable def oneCt_a1 :=
  fun (k : KK) (pc : Nat) (rest : List AV) (lv : AL) (A : AH) (pr : List PD) (nx : Nat) (tab : Tb) (fs : List Ln) (ca : Nat) (cb : Nat) (θ : Th) (I : List Nat) (H : AH) (H' : AH) (C : Ct) => ((some (Bool.rec (motive := fun _ => _) false (oneCt_a0 k pc rest lv A pr nx tab fs ca cb θ I H H' C) (loopJ (fun s => (scL (Nat.add nx (lenQ I)) (θ s))) C.2.2.1.1 (nat_lit 0)))) : Option Bool)
noncomputable def oneCt (k : KK) (pc : Nat) (as' : List AV) (H : AH) (pr' : List PD) (rest : List AV) (lv : AL) (A : AH) (pr : List PD) (nx : Nat) (tab : Tb) (fs : List Ln) (ca cb : Nat) (I : List Nat) (C : Ct) (H' : AH) (θ : Th) : Option Bool :=
  (Bool.rec (motive := fun _ => Option Bool) none (oneCt_a1 k pc rest lv A pr nx tab fs ca cb θ I H H' C) (instP tab fs θ C.2.2.1 as' H' pr'))
theorem oneCt_def (k : KK) (pc : Nat) (as' : List AV) (H : AH) (pr' : List PD) (rest : List AV) (lv : AL) (A : AH) (pr : List PD) (nx : Nat) (tab : Tb) (fs : List Ln) (ca cb : Nat) (I : List Nat) (C : Ct) (H' : AH) (θ : Th) : oneCt k pc as' H pr' rest lv A pr nx tab fs ca cb I C H' θ = bif instP tab fs θ C.2.2.1 as' H' pr' then some (bif loopJ (fun s => scL (Nat.add nx I.length) (θ s)) C.2.2.1.1 0 then outAll (outA k pc rest lv A pr nx tab fs ca cb θ I H H' C.2.2.1.1) C.2.2.2 else false) else none := by
  show (Bool.rec (motive := fun _ => Option Bool) none (some (Bool.rec (motive := fun _ => _) false (outAll (outA k pc rest lv A pr nx tab fs ca cb θ I H H' C.2.2.1.1) C.2.2.2) (loopJ (fun s => (scL (Nat.add nx (lenQ I)) (θ s))) C.2.2.1.1 (nat_lit 0)))) (instP tab fs θ C.2.2.1 as' H' pr')) = _
  try simp only [iAddQ_eq, iMulQ_eq, iNegQ_eq, lenQ_eq, nthQ_eq, setQ_eq, appQ_eq, mapQ_eq, allQ_eq, anyQ_eq, dropQ_eq, takeQ_eq, revQ_eq, getDQ_eq, optLQ_eq, brecC]
  all_goals
    cases hq_1 : (instP tab fs θ C.2.2.1 as' H' pr') with
    | false =>
      try dsimp only [cond_false, cond_true]
      all_goals rfl
    | true =>
      try dsimp only [cond_false, cond_true]
      all_goals rfl
noncomputable def withFO (θ : Un) (k : Th → Option Bool) : Option Bool :=
  (Prod.rec (motive := fun _ => Option Bool) (fun x_2912 x_2913 => (Prod.rec (motive := fun _ => Option Bool) (fun f_2914 x_2915 => (k f_2914)) x_2913)) (balF (nat_lit 9) θ.2))
theorem withFO_def (θ : Un) (k : Th → Option Bool) : withFO θ k = (match balF 9 θ.2 with
  | (_, f, _) => k f) := by
  show (Prod.rec (motive := fun _ => Option Bool) (fun x_2908 x_2909 => (Prod.rec (motive := fun _ => Option Bool) (fun f_2910 x_2911 => (k f_2910)) x_2909)) (balF (nat_lit 9) θ.2)) = _
  all_goals
    cases hq_1 : (balF 9 θ.2) with
    | mk y_2916 y_2917 =>
      try dsimp only [cond_false, cond_true]
      all_goals
        cases y_2917 with
        | mk y_2918 y_2919 =>
          try dsimp only [cond_false, cond_true]
          all_goals rfl
noncomputable def tryCt (k : KK) (pc : Nat) (as' : List AV) (H : AH) (pr' : List PD) (rest : List AV) (lv : AL) (A : AH) (pr : List PD) (nx : Nat) (tab : Tb) (fs : List Ln) (ca cb : Nat) (I : List Nat) (C : Ct) (H' : AH) : Option Bool :=
  (withFO (thOf tab fs C.2.2.1 as' H' pr') (oneCt k pc as' H pr' rest lv A pr nx tab fs ca cb I C H'))
theorem tryCt_def (k : KK) (pc : Nat) (as' : List AV) (H : AH) (pr' : List PD) (rest : List AV) (lv : AL) (A : AH) (pr : List PD) (nx : Nat) (tab : Tb) (fs : List Ln) (ca cb : Nat) (I : List Nat) (C : Ct) (H' : AH) : tryCt k pc as' H pr' rest lv A pr nx tab fs ca cb I C H' = withFO (thOf tab fs C.2.2.1 as' H' pr') (oneCt k pc as' H pr' rest lv A pr nx tab fs ca cb I C H') := by
  show (withFO (thOf tab fs C.2.2.1 as' H' pr') (oneCt k pc as' H pr' rest lv A pr nx tab fs ca cb I C H')) = _
  all_goals rfl
noncomputable def callCt (k : KK) (pc a : Nat) (as' : List AV) (H : AH) (pr' : List PD) (rest : List AV) (lv : AL) (A : AH) (pr : List PD) (nx : Nat) (tab : Tb) (fs : List Ln) (ca cb : Nat) (I : List Nat) : List Ct → Bool :=
  fun e_0 => List.rec (motive := fun _ => Bool) false (fun h_0 t_0 ih => (Bool.rec (motive := fun _ => Bool) (ih) (Option.rec (motive := fun _ => Bool) (ih) (fun b_2920 => b_2920) (tryCt k pc as' H pr' rest lv A pr nx tab fs ca cb I h_0 (convH nx (nat_lit 0) h_0.2.2.1.2.2.2.2.1 H))) (Nat.beq h_0.1 a))) e_0 
theorem callCt_def (k : KK) (pc a : Nat) (as' : List AV) (H : AH) (pr' : List PD) (rest : List AV) (lv : AL) (A : AH) (pr : List PD) (nx : Nat) (tab : Tb) (fs : List Ln) (ca cb : Nat) (I : List Nat) (e_0 : List Ct) : callCt k pc a as' H pr' rest lv A pr nx tab fs ca cb I e_0 = (match e_0 with
  | [] => false
  | C :: r => bif Nat.beq C.1 a then (match tryCt k pc as' H pr' rest lv A pr nx tab fs ca cb I C (convH nx 0 C.2.2.1.2.2.2.2.1 H) with
    | some b => b
    | none => callCt k pc a as' H pr' rest lv A pr nx tab fs ca cb I r) else callCt k pc a as' H pr' rest lv A pr nx tab fs ca cb I r) := by
  cases e_0 with
  | nil =>
    show false = _
    try simp only [iAddQ_eq, iMulQ_eq, iNegQ_eq, lenQ_eq, nthQ_eq, setQ_eq, appQ_eq, mapQ_eq, allQ_eq, anyQ_eq, dropQ_eq, takeQ_eq, revQ_eq, getDQ_eq, optLQ_eq, brecC]
    all_goals rfl
  | cons h_0 t_0 =>
    show (Bool.rec (motive := fun _ => Bool) (callCt k pc a as' H pr' rest lv A pr nx tab fs ca cb I t_0) (Option.rec (motive := fun _ => Bool) (callCt k pc a as' H pr' rest lv A pr nx tab fs ca cb I t_0) (fun b_2921 => b_2921) (tryCt k pc as' H pr' rest lv A pr nx tab fs ca cb I h_0 (convH nx (nat_lit 0) h_0.2.2.1.2.2.2.2.1 H))) (Nat.beq h_0.1 a)) = _
    try simp only [iAddQ_eq, iMulQ_eq, iNegQ_eq, lenQ_eq, nthQ_eq, setQ_eq, appQ_eq, mapQ_eq, allQ_eq, anyQ_eq, dropQ_eq, takeQ_eq, revQ_eq, getDQ_eq, optLQ_eq, brecC]
    all_goals
      cases hq_1 : (Nat.beq h_0.1 a) with
      | false =>
        try dsimp only [cond_false, cond_true]
        all_goals rfl
      | true =>
        try dsimp only [cond_false, cond_true]
        all_goals
          cases hq_2 : (tryCt k pc as' H pr' rest lv A pr nx tab fs ca cb I h_0 ((convH nx 0 h_0.2.2.1.2.2.2.2.1 H))) with
          | none =>
            try dsimp only [cond_false, cond_true]
            all_goals rfl
          | some y_2922 =>
            try dsimp only [cond_false, cond_true]
            all_goals rfl
noncomputable def isClsA (me : ME) (as : List AV) (A : AH) : Bool := match mKd me, as with
  | 0, .inr (.inl (some q)) :: _ => match A[q]? with
    | some (.inl (ci, _)) => bif Nat.beq ci (mOw me) then Nat.blt ci 13 else false
    | _ => false
  | 1, .inr (.inl (some _)) :: _ => true
  | 2, _ => true
  | _, _ => false
noncomputable def g7 (env : List Ct) (k : KK) (i : Instr) (a b pc : Nat) (st : List AV) (lv : AL) (A : AH) (pr : List PD) (nx : Nat) (tab : Tb) (fs : List Ln) (ca cb : Nat) : Bool :=
  bif isCall i then (match meths[a]? with
  | none => false
  | some me => bif Nat.ble b st.length then (bif Nat.ble (((st.drop b).map catA).sum) 8 then (bif (st.drop b).all (okVA A.length) then
    (fun (as : List AV) => bif isClsA me as A then (match aCutZ A as with
    | none => false
    | some I => callCt k pc a (as.map (mpV (fun j => ixA j I))) (aSubZ A I) (prIn I pr) (st.drop b) lv A pr nx tab fs ca cb I env) else false) ((st.take b).reverse) else false) else false) else false) else false
abbrev FN : Type := Option AV → AH → List PD → Tb → List Ln → Nat → Nat → Bool
noncomputable def g6 (fin : FN) (i : Instr) (st : List AV) (A : AH) (pr : List PD) (tab : Tb) (fs : List Ln) (ca cb : Nat) : Bool := match i with
  | .ireturn => match st with
    | [.inl (false, e)] => fin (some (.inl (false, e))) A pr tab fs ca cb
    | _ => false
  | .lreturn => match st with
    | [.inl (true, e)] => fin (some (.inl (true, e))) A pr tab fs ca cb
    | _ => false
  | .return_ => match st with
    | [] => fin none A pr tab fs ca cb
    | _ => false
  | _ => false
noncomputable def st0 (i : Instr) (n a : Nat) (k : KK) (st : List AV) (lv : AL) (A : AH) (pr : List PD) (nx : Nat) (tab : Tb) (fs : List Ln) (ca cb : Nat) : Bool := match g0 i a tab fs lv st with
  | some (rest, r) => pushR nx tab fs r (fun nx tab fs v => k n (v :: rest) lv A pr nx tab fs ca cb)
  | none => false
noncomputable def st1 (i : Instr) (n nL : Nat) (k : KK) (st : List AV) (lv : AL) (A : AH) (pr : List PD) (nx : Nat) (tab : Tb) (fs : List Ln) (ca cb : Nat) : Bool := match i with
  | .iinc x m => (match alGet x lv with
    | some (.inl (false, e)) => bif Nat.blt x nL then (bif leI lo32 m then (bif leI m hi32 then pushR nx tab fs (.inr (false, fitIF tab fs (pluL e m))) (fun nx tab fs v => k n st ((x, v) :: alDel false x lv) A pr nx tab fs ca cb) else false) else false) else false
    | _ => false)
  | _ => match g1 i nL A.length st lv with
    | some (rest, lv') => k n rest lv' A pr nx tab fs ca cb
    | none => false
/-- an element that is told -/
noncomputable def findE_a0 :=
  fun (ih : Option Ln) (v_2929 : Ln) (tab : Tb) (fs : List Ln) (e : Ln) (e_2927 : Ln) => ((Bool.rec (motive := fun _ => Option Ln) (ih) (some v_2929) (eqL tab fs e e_2927)) : Option Ln)
noncomputable def findE_a1 :=
  fun (ih : Option Ln) (v_2929 : Ln) (tab : Tb) (fs : List Ln) (e : Ln) (e_2927 : Ln) (q : Nat) (q_2923 : Nat) => ((Bool.rec (motive := fun _ => Option Ln) (ih) (findE_a0 ih v_2929 tab fs e e_2927) (Nat.beq q q_2923)) : Option Ln)
noncomputable def findE (tab : Tb) (fs : List Ln) (q : Nat) (e : Ln) : List PD → Option Ln :=
  fun e_0 => List.rec (motive := fun _ => Option Ln) none (fun h_0 t_0 ih => (Bool.rec (motive := fun _ => Option Ln) (ih) (List.rec (motive := fun _ => Option Ln) (ih) (fun q_2923 x_2924 _ => (List.rec (motive := fun _ => Option Ln) (List.rec (motive := fun _ => Option Ln) (ih) (fun e_2927 x_2928 _ => (List.rec (motive := fun _ => Option Ln) (ih) (fun v_2929 x_2930 _ => (List.rec (motive := fun _ => Option Ln) (findE_a1 ih v_2929 tab fs e e_2927 q q_2923) (fun x_2931 x_2932 _ => (ih)) x_2930)) x_2928)) h_0.2.2) (fun x_2925 x_2926 _ => (ih)) x_2924)) h_0.2.1) (Nat.beq h_0.1 (nat_lit 7)))) e_0 
theorem findE_def (tab : Tb) (fs : List Ln) (q : Nat) (e : Ln) (e_0 : List PD) : findE tab fs q e e_0 = (match e_0 with
  | [] => none
  | p :: r => bif Nat.beq p.1 7 then (match p.2.1, p.2.2 with
    | [q'], [e', v] => bif Nat.beq q q' then (bif eqL tab fs e e' then some v else findE tab fs q e r) else findE tab fs q e r
    | _, _ => findE tab fs q e r) else findE tab fs q e r) := by
  cases e_0 with
  | nil =>
    show none = _
    try simp only [iAddQ_eq, iMulQ_eq, iNegQ_eq, lenQ_eq, nthQ_eq, setQ_eq, appQ_eq, mapQ_eq, allQ_eq, anyQ_eq, dropQ_eq, takeQ_eq, revQ_eq, getDQ_eq, optLQ_eq, brecC]
    all_goals rfl
  | cons h_0 t_0 =>
    show (Bool.rec (motive := fun _ => Option Ln) (findE tab fs q e t_0) (List.rec (motive := fun _ => Option Ln) (findE tab fs q e t_0) (fun q_2933 x_2934 _ => (List.rec (motive := fun _ => Option Ln) (List.rec (motive := fun _ => Option Ln) (findE tab fs q e t_0) (fun e_2937 x_2938 _ => (List.rec (motive := fun _ => Option Ln) (findE tab fs q e t_0) (fun v_2939 x_2940 _ => (List.rec (motive := fun _ => Option Ln) (Bool.rec (motive := fun _ => Option Ln) (findE tab fs q e t_0) (Bool.rec (motive := fun _ => Option Ln) (findE tab fs q e t_0) (some v_2939) (eqL tab fs e e_2937)) (Nat.beq q q_2933)) (fun x_2941 x_2942 _ => (findE tab fs q e t_0)) x_2940)) x_2938)) h_0.2.2) (fun x_2935 x_2936 _ => (findE tab fs q e t_0)) x_2934)) h_0.2.1) (Nat.beq h_0.1 (nat_lit 7))) = _
    try simp only [iAddQ_eq, iMulQ_eq, iNegQ_eq, lenQ_eq, nthQ_eq, setQ_eq, appQ_eq, mapQ_eq, allQ_eq, anyQ_eq, dropQ_eq, takeQ_eq, revQ_eq, getDQ_eq, optLQ_eq, brecC]
    all_goals
      cases hq_1 : (Nat.beq h_0.1 7) with
      | false =>
        try dsimp only [cond_false, cond_true]
        all_goals rfl
      | true =>
        try dsimp only [cond_false, cond_true]
        all_goals
          cases hq_2 : h_0.2.1 with
          | nil =>
            try dsimp only [cond_false, cond_true]
            all_goals rfl
          | cons y_2943 y_2944 =>
            try dsimp only [cond_false, cond_true]
            all_goals
              cases y_2944 with
              | nil =>
                try dsimp only [cond_false, cond_true]
                all_goals
                  cases hq_4 : h_0.2.2 with
                  | nil =>
                    try dsimp only [cond_false, cond_true]
                    all_goals rfl
                  | cons y_2945 y_2946 =>
                    try dsimp only [cond_false, cond_true]
                    all_goals
                      cases y_2946 with
                      | nil =>
                        try dsimp only [cond_false, cond_true]
                        all_goals rfl
                      | cons y_2947 y_2948 =>
                        try dsimp only [cond_false, cond_true]
                        all_goals
                          cases y_2948 with
                          | nil =>
                            try dsimp only [cond_false, cond_true]
                            all_goals
                              cases hq_7 : (Nat.beq q y_2943) with
                              | false =>
                                try dsimp only [cond_false, cond_true]
                                all_goals rfl
                              | true =>
                                try dsimp only [cond_false, cond_true]
                                all_goals
                                  cases hq_8 : (eqL tab fs e y_2945) with
                                  | false =>
                                    try dsimp only [cond_false, cond_true]
                                    all_goals rfl
                                  | true =>
                                    try dsimp only [cond_false, cond_true]
                                    all_goals rfl
                          | cons y_2949 y_2950 =>
                            try dsimp only [cond_false, cond_true]
                            all_goals rfl
              | cons y_2951 y_2952 =>
                try dsimp only [cond_false, cond_true]
                all_goals rfl
noncomputable def prLd_a0 :=
  fun (r_2984 : List AV) (v_2997 : Ln) => ((some (r_2984, (.inl (.inl (false, v_2997))))) : Option SV)
noncomputable def prLd_a1 :=
  fun (r_2984 : List AV) (v_2997 : Ln) (u_3000 : Nat) s_2995 => ((Bool.rec (motive := fun _ => Option SV) none (prLd_a0 r_2984 v_2997) (Nat.blt u_3000 (sgLen s_2995))) : Option SV)
noncomputable def prLd (tab : Tb) (fs : List Ln) (A : AH) (pr : List PD) (st : List AV) : Option SV :=
  (List.rec (motive := fun _ => Option SV) none (fun x_2977 x_2978 _ => (Sum.rec (motive := fun _ => Option SV) (fun x_2979 => (Prod.rec (motive := fun _ => Option SV) (fun x_2981 e_2982 => (Bool.rec (motive := fun _ => Option SV) (List.rec (motive := fun _ => Option SV) none (fun x_2983 r_2984 _ => (Sum.rec (motive := fun _ => Option SV) (fun x_2985 => none) (fun x_2986 => (Sum.rec (motive := fun _ => Option SV) (fun x_2987 => (Option.rec (motive := fun _ => Option SV) none (fun q_2989 => (Option.rec (motive := fun _ => Option SV) none (fun x_2990 => (Sum.rec (motive := fun _ => Option SV) (fun x_2991 => none) (fun x_2992 => (Prod.rec (motive := fun _ => Option SV) (fun k_2993 x_2994 => (Sum.rec (motive := fun _ => Option SV) (fun s_2995 => (Bool.rec (motive := fun _ => Option SV) none (Option.rec (motive := fun _ => Option SV) none (fun v_2997 => (Option.rec (motive := fun _ => Option SV) none (fun x_2998 => (Prod.rec (motive := fun _ => Option SV) (fun x_2999 u_3000 => (prLd_a1 r_2984 v_2997 u_3000 s_2995)) x_2998)) (idxR tab fs e_2982))) (findE tab fs q_2989 e_2982 pr)) (Nat.beq k_2993 (nat_lit 0)))) (fun x_2996 => none) x_2994)) x_2992)) x_2990)) (nthQ A q_2989))) x_2987)) (fun x_2988 => none) x_2986)) x_2983)) x_2978) none x_2981)) x_2979)) (fun x_2980 => none) x_2977)) st)
theorem prLd_def (tab : Tb) (fs : List Ln) (A : AH) (pr : List PD) (st : List AV) : prLd tab fs A pr st = (match st with
  | .inl (false, e) :: .inr (.inl (some q)) :: r => (match A[q]? with
    | some (.inr (k, .inl s)) => bif Nat.beq k 0 then (match findE tab fs q e pr with
      | some v => (match idxR tab fs e with
        | some (_, u) => bif Nat.blt u (sgLen s) then some (r, .inl (.inl (false, v))) else none
        | none => none)
      | none => none) else none
    | _ => none)
  | _ => none) := by
  show (List.rec (motive := fun _ => Option SV) none (fun x_2953 x_2954 _ => (Sum.rec (motive := fun _ => Option SV) (fun x_2955 => (Prod.rec (motive := fun _ => Option SV) (fun x_2957 e_2958 => (Bool.rec (motive := fun _ => Option SV) (List.rec (motive := fun _ => Option SV) none (fun x_2959 r_2960 _ => (Sum.rec (motive := fun _ => Option SV) (fun x_2961 => none) (fun x_2962 => (Sum.rec (motive := fun _ => Option SV) (fun x_2963 => (Option.rec (motive := fun _ => Option SV) none (fun q_2965 => (Option.rec (motive := fun _ => Option SV) none (fun x_2966 => (Sum.rec (motive := fun _ => Option SV) (fun x_2967 => none) (fun x_2968 => (Prod.rec (motive := fun _ => Option SV) (fun k_2969 x_2970 => (Sum.rec (motive := fun _ => Option SV) (fun s_2971 => (Bool.rec (motive := fun _ => Option SV) none (Option.rec (motive := fun _ => Option SV) none (fun v_2973 => (Option.rec (motive := fun _ => Option SV) none (fun x_2974 => (Prod.rec (motive := fun _ => Option SV) (fun x_2975 u_2976 => (Bool.rec (motive := fun _ => Option SV) none (some (r_2960, (.inl (.inl (false, v_2973))))) (Nat.blt u_2976 (sgLen s_2971)))) x_2974)) (idxR tab fs e_2958))) (findE tab fs q_2965 e_2958 pr)) (Nat.beq k_2969 (nat_lit 0)))) (fun x_2972 => none) x_2970)) x_2968)) x_2966)) (nthQ A q_2965))) x_2963)) (fun x_2964 => none) x_2962)) x_2959)) x_2954) none x_2957)) x_2955)) (fun x_2956 => none) x_2953)) st) = _
  try simp only [iAddQ_eq, iMulQ_eq, iNegQ_eq, lenQ_eq, nthQ_eq, setQ_eq, appQ_eq, mapQ_eq, allQ_eq, anyQ_eq, dropQ_eq, takeQ_eq, revQ_eq, getDQ_eq, optLQ_eq, brecC]
  all_goals
    cases st with
    | nil =>
      try dsimp only [cond_false, cond_true]
      all_goals rfl
    | cons y_3001 y_3002 =>
      try dsimp only [cond_false, cond_true]
      all_goals
        cases y_3001 with
        | inl y_3003 =>
          try dsimp only [cond_false, cond_true]
          all_goals
            cases y_3003 with
            | mk y_3004 y_3005 =>
              try dsimp only [cond_false, cond_true]
              all_goals
                cases y_3004 with
                | false =>
                  try dsimp only [cond_false, cond_true]
                  all_goals
                    cases y_3002 with
                    | nil =>
                      try dsimp only [cond_false, cond_true]
                      all_goals rfl
                    | cons y_3006 y_3007 =>
                      try dsimp only [cond_false, cond_true]
                      all_goals
                        cases y_3006 with
                        | inl y_3008 =>
                          try dsimp only [cond_false, cond_true]
                          all_goals rfl
                        | inr y_3009 =>
                          try dsimp only [cond_false, cond_true]
                          all_goals
                            cases y_3009 with
                            | inl y_3010 =>
                              try dsimp only [cond_false, cond_true]
                              all_goals
                                cases y_3010 with
                                | none =>
                                  try dsimp only [cond_false, cond_true]
                                  all_goals rfl
                                | some y_3011 =>
                                  try dsimp only [cond_false, cond_true]
                                  all_goals
                                    cases hq_9 : A[y_3011]? with
                                    | none =>
                                      try dsimp only [cond_false, cond_true]
                                      all_goals rfl
                                    | some y_3012 =>
                                      try dsimp only [cond_false, cond_true]
                                      all_goals
                                        cases y_3012 with
                                        | inl y_3013 =>
                                          try dsimp only [cond_false, cond_true]
                                          all_goals rfl
                                        | inr y_3014 =>
                                          try dsimp only [cond_false, cond_true]
                                          all_goals
                                            cases y_3014 with
                                            | mk y_3015 y_3016 =>
                                              try dsimp only [cond_false, cond_true]
                                              all_goals
                                                cases y_3016 with
                                                | inl y_3017 =>
                                                  try dsimp only [cond_false, cond_true]
                                                  all_goals
                                                    cases hq_13 : (Nat.beq y_3015 0) with
                                                    | false =>
                                                      try dsimp only [cond_false, cond_true]
                                                      all_goals rfl
                                                    | true =>
                                                      try dsimp only [cond_false, cond_true]
                                                      all_goals
                                                        cases hq_14 : (findE tab fs y_3011 y_3005 pr) with
                                                        | none =>
                                                          try dsimp only [cond_false, cond_true]
                                                          all_goals rfl
                                                        | some y_3018 =>
                                                          try dsimp only [cond_false, cond_true]
                                                          all_goals
                                                            cases hq_15 : (idxR tab fs y_3005) with
                                                            | none =>
                                                              try dsimp only [cond_false, cond_true]
                                                              all_goals rfl
                                                            | some y_3019 =>
                                                              try dsimp only [cond_false, cond_true]
                                                              all_goals
                                                                cases y_3019 with
                                                                | mk y_3020 y_3021 =>
                                                                  try dsimp only [cond_false, cond_true]
                                                                  all_goals
                                                                    cases hq_17 : (Nat.blt y_3021 ((sgLen y_3017))) with
                                                                    | false =>
                                                                      try dsimp only [cond_false, cond_true]
                                                                      all_goals rfl
                                                                    | true =>
                                                                      try dsimp only [cond_false, cond_true]
                                                                      all_goals rfl
                                                | inr y_3022 =>
                                                  try dsimp only [cond_false, cond_true]
                                                  all_goals rfl
                            | inr y_3023 =>
                              try dsimp only [cond_false, cond_true]
                              all_goals rfl
                | true =>
                  try dsimp only [cond_false, cond_true]
                  all_goals rfl
        | inr y_3024 =>
          try dsimp only [cond_false, cond_true]
          all_goals rfl
noncomputable def st3g (scl : Option SL) (i : Instr) (n a b : Nat) (k : KK) (st : List AV) (lv : AL) (A : AH) (pr : List PD) (nx : Nat) (tab : Tb) (fs : List Ln) (ca cb : Nat) : Bool := match g3 scl i a b tab fs A st with
  | some (rest, r) => pushR nx tab fs r (fun nx tab fs v => k n (v :: rest) lv A pr nx tab fs ca cb)
  | none => false
noncomputable def st3l (scl : Option SL) (n a b : Nat) (k : KK) (st : List AV) (lv : AL) (A : AH) (pr : List PD) (nx : Nat) (tab : Tb) (fs : List Ln) (ca cb : Nat) : Bool := match scl with
  | none => (match prLd tab fs A pr st with
    | some (rest, r) => pushR nx tab fs r (fun nx tab fs v => k n (v :: rest) lv A pr nx tab fs ca cb)
    | none => st3g none .iaload n a b k st lv A pr nx tab fs ca cb)
  | some s => st3g (some s) .iaload n a b k st lv A pr nx tab fs ca cb
noncomputable def st3 (scl : Option SL) (i : Instr) (n a b : Nat) (k : KK) (st : List AV) (lv : AL) (A : AH) (pr : List PD) (nx : Nat) (tab : Tb) (fs : List Ln) (ca cb : Nat) : Bool := match i with
  | .aaload => aaL (fun st tab fs => k n st lv A pr nx tab fs ca cb) tab fs A st
  | .iaload => st3l scl n a b k st lv A pr nx tab fs ca cb
  | i => st3g scl i n a b k st lv A pr nx tab fs ca cb
noncomputable def st4 (ini : Bool) (o : Nat) (i : Instr) (n a b : Nat) (k : KK) (st : List AV) (lv : AL) (A : AH) (pr : List PD) (nx : Nat) (tab : Tb) (fs : List Ln) (ca cb : Nat) : Bool := match g4 ini o i a b tab fs A pr st with
  | some (rest, A', pr') => k n rest lv A' pr' nx tab fs ca cb
  | none => false
noncomputable def step (scl : Option SL) (ini : Bool) (o nL : Nat) (env : List Ct) (fin : FN) (k : KK) (e : XE) (pc : Nat) (st : List AV) (lv : AL) (A : AH) (pr : List PD) (nx : Nat) (tab : Tb) (fs : List Ln) (ca cb : Nat) : Bool := match e with
  | (i, len, g, a, b, _) => match g with
    | 0 => st0 i (Nat.add pc len) a k st lv A pr nx tab fs ca cb
    | 1 => st1 i (Nat.add pc len) nL k st lv A pr nx tab fs ca cb
    | 2 => g2 (fun t st tab fs => k t st lv A pr nx tab fs ca cb) i pc tab fs st
    | 3 => st3 scl i (Nat.add pc len) a b k st lv A pr nx tab fs ca cb
    | 4 => st4 ini o i (Nat.add pc len) a b k st lv A pr nx tab fs ca cb
    | 5 => match g5 i a tab fs A st with
      | some (rest, A', dc, ds) => bif prB A.length pr then k (Nat.add pc len) rest lv A' pr nx tab fs (Nat.add ca dc) (Nat.add cb ds) else false
      | none => false
    | 6 => g6 fin i st A pr tab fs ca cb
    | 7 => g7 env k i a b pc st lv A pr nx tab fs ca cb
    | _ => false
/-- a hint: at a place, the states that together cover this one (the machine's state stays) -/
abbrev HR : Type := AH × List PD × Nat × Tb × List Ln
abbrev HF : Type := Nat → AL → AH → List PD → Nat → Tb → List Ln → Option (List HR)
/-- a macro: many steps of the machine at once -/
abbrev MR : Type := Nat × AL × AH × List PD × Nat × Tb × List Ln
abbrev MC : Type := Nat → List (List (Option XE)) → Nat → List AV → AL → AH → List PD → Nat → Tb → List Ln → Option MR
/-- hints, macros, where points are (a bit a place), where hints and macros are, how many symbols stay the entry's -/
abbrev HN : Type := HF × MC × Nat × Nat × Nat
noncomputable def isPt (m pc : Nat) : Bool :=
  (Nat.beq (Nat.land (Nat.shiftRight m pc) (nat_lit 1)) (nat_lit 1))
theorem isPt_def (m pc : Nat) : isPt m pc = Nat.beq (Nat.land (Nat.shiftRight m pc) 1) 1 := by
  show (Nat.beq (Nat.land (Nat.shiftRight m pc) (nat_lit 1)) (nat_lit 1)) = _
  all_goals rfl
noncomputable def noF : HF := fun _ _ _ _ _ _ _ => none
noncomputable def noM : MC := fun _ _ _ _ _ _ _ _ _ _ => none
noncomputable def noH : HN := (noF, noM, 0, 0, 0)
noncomputable def macAt (scl : Option SL) (mc : MC) (nL : Nat) (tb : List (List (Option XE))) (pc : Nat) (st : List AV) (lv : AL) (A : AH) (pr : List PD) (nx : Nat) (tab : Tb) (fs : List Ln) : Option MR := match scl with
  | none => mc nL tb pc st lv A pr nx tab fs
  | some _ => none
noncomputable def macG_a0 :=
  fun (scl : Option SL) (mc : MC) (nL : Nat) (tb : List (List (Option XE))) (pc : Nat) (st : List AV) (lv : AL) (A : AH) (pr : List PD) (nx : Nat) (tab : Tb) (fs : List Ln) => ((macAt scl mc nL tb pc st lv A pr nx tab fs) : Option MR)
noncomputable def macG (m : Nat) (scl : Option SL) (mc : MC) (nL : Nat) (tb : List (List (Option XE))) (pc : Nat) (st : List AV) (lv : AL) (A : AH) (pr : List PD) (nx : Nat) (tab : Tb) (fs : List Ln) : Option MR :=
  (Bool.rec (motive := fun _ => Option MR) none (macG_a0 scl mc nL tb pc st lv A pr nx tab fs) (isPt m pc))
theorem macG_def (m : Nat) (scl : Option SL) (mc : MC) (nL : Nat) (tb : List (List (Option XE))) (pc : Nat) (st : List AV) (lv : AL) (A : AH) (pr : List PD) (nx : Nat) (tab : Tb) (fs : List Ln) : macG m scl mc nL tb pc st lv A pr nx tab fs = bif isPt m pc then macAt scl mc nL tb pc st lv A pr nx tab fs else none := by
  show (Bool.rec (motive := fun _ => Option MR) none (macAt scl mc nL tb pc st lv A pr nx tab fs) (isPt m pc)) = _
  try simp only [iAddQ_eq, iMulQ_eq, iNegQ_eq, lenQ_eq, nthQ_eq, setQ_eq, appQ_eq, mapQ_eq, allQ_eq, anyQ_eq, dropQ_eq, takeQ_eq, revQ_eq, getDQ_eq, optLQ_eq, brecC]
  all_goals
    cases hq_1 : (isPt m pc) with
    | false =>
      try dsimp only [cond_false, cond_true]
      all_goals rfl
    | true =>
      try dsimp only [cond_false, cond_true]
      all_goals rfl
noncomputable def hinG (m : Nat) (f : HF) (pc : Nat) (lv : AL) (A : AH) (pr : List PD) (nx : Nat) (tab : Tb) (fs : List Ln) : Option (List HR) :=
  (Bool.rec (motive := fun _ => Option (List HR)) none (f pc lv A pr nx tab fs) (isPt m pc))
theorem hinG_def (m : Nat) (f : HF) (pc : Nat) (lv : AL) (A : AH) (pr : List PD) (nx : Nat) (tab : Tb) (fs : List Ln) : hinG m f pc lv A pr nx tab fs = bif isPt m pc then f pc lv A pr nx tab fs else none := by
  show (Bool.rec (motive := fun _ => Option (List HR)) none (f pc lv A pr nx tab fs) (isPt m pc)) = _
  try simp only [iAddQ_eq, iMulQ_eq, iNegQ_eq, lenQ_eq, nthQ_eq, setQ_eq, appQ_eq, mapQ_eq, allQ_eq, anyQ_eq, dropQ_eq, takeQ_eq, revQ_eq, getDQ_eq, optLQ_eq, brecC]
  all_goals
    cases hq_1 : (isPt m pc) with
    | false =>
      try dsimp only [cond_false, cond_true]
      all_goals rfl
    | true =>
      try dsimp only [cond_false, cond_true]
      all_goals rfl
noncomputable def hAll_a0 :=
  fun (ih : Bool) (k : AH → List PD → Nat → Tb → List Ln → Bool) (A_3025 : AH) (pr_3027 : List PD) (nx_3029 : Nat) (tab_3031 : Tb) (fs_3032 : List Ln) => ((Bool.rec (motive := fun _ => Bool) false (ih) (k A_3025 pr_3027 nx_3029 tab_3031 fs_3032)) : Bool)
noncomputable def hAll (k : AH → List PD → Nat → Tb → List Ln → Bool) : List HR → Bool :=
  fun e_0 => List.rec (motive := fun _ => Bool) true (fun h_0 t_0 ih => (Prod.rec (motive := fun _ => Bool) (fun A_3025 x_3026 => (Prod.rec (motive := fun _ => Bool) (fun pr_3027 x_3028 => (Prod.rec (motive := fun _ => Bool) (fun nx_3029 x_3030 => (Prod.rec (motive := fun _ => Bool) (fun tab_3031 fs_3032 => (hAll_a0 ih k A_3025 pr_3027 nx_3029 tab_3031 fs_3032)) x_3030)) x_3028)) x_3026)) h_0)) e_0 
theorem hAll_def (k : AH → List PD → Nat → Tb → List Ln → Bool) (e_0 : List HR) : hAll k e_0 = (match e_0 with
  | [] => true
  | (A, pr, nx, tab, fs) :: r => bif k A pr nx tab fs then hAll k r else false) := by
  cases e_0 with
  | nil =>
    show true = _
    try simp only [iAddQ_eq, iMulQ_eq, iNegQ_eq, lenQ_eq, nthQ_eq, setQ_eq, appQ_eq, mapQ_eq, allQ_eq, anyQ_eq, dropQ_eq, takeQ_eq, revQ_eq, getDQ_eq, optLQ_eq, brecC]
    all_goals rfl
  | cons h_0 t_0 =>
    show (Prod.rec (motive := fun _ => Bool) (fun A_3033 x_3034 => (Prod.rec (motive := fun _ => Bool) (fun pr_3035 x_3036 => (Prod.rec (motive := fun _ => Bool) (fun nx_3037 x_3038 => (Prod.rec (motive := fun _ => Bool) (fun tab_3039 fs_3040 => (Bool.rec (motive := fun _ => Bool) false (hAll k t_0) (k A_3033 pr_3035 nx_3037 tab_3039 fs_3040))) x_3038)) x_3036)) x_3034)) h_0) = _
    try simp only [iAddQ_eq, iMulQ_eq, iNegQ_eq, lenQ_eq, nthQ_eq, setQ_eq, appQ_eq, mapQ_eq, allQ_eq, anyQ_eq, dropQ_eq, takeQ_eq, revQ_eq, getDQ_eq, optLQ_eq, brecC]
    all_goals
      cases h_0 with
      | mk y_3041 y_3042 =>
        try dsimp only [cond_false, cond_true]
        all_goals
          cases y_3042 with
          | mk y_3043 y_3044 =>
            try dsimp only [cond_false, cond_true]
            all_goals
              cases y_3044 with
              | mk y_3045 y_3046 =>
                try dsimp only [cond_false, cond_true]
                all_goals
                  cases y_3046 with
                  | mk y_3047 y_3048 =>
                    try dsimp only [cond_false, cond_true]
                    all_goals
                      cases hq_5 : (k y_3041 y_3043 y_3045 y_3047 y_3048) with
                      | false =>
                        try dsimp only [cond_false, cond_true]
                        all_goals rfl
                      | true =>
                        try dsimp only [cond_false, cond_true]
                        all_goals rfl
noncomputable def go (scl : Option SL) (ini : Bool) (o nL : Nat) (tb : List (List (Option XE))) (env : List Ct) (pts : List PE) (G : List Ln) (rk : Option Ln) (fin : FN) (hn : HN) : Nat → Bool → KK
  | 0, _ => fun _ _ _ _ _ _ _ _ _ _ => false
  | n + 1, first => fun pc st lv A pr nx tab fs ca cb => bif (bif first then false else isPt hn.2.2.1 pc) then anyPt hn.2.2.2.2 G rk pc st lv A pr tab fs ca cb pts else match macG hn.2.2.2.1 scl hn.2.1 nL tb pc st lv A pr nx tab fs with
    | some (pc', lv', A', pr', nx', tab', fs') => go scl ini o nL tb env pts G rk fin hn n false pc' st lv' A' pr' nx' tab' fs' ca cb
    | none => match tbGet tb pc with
      | some e => (match hinG hn.2.2.2.1 hn.1 pc lv A pr nx tab fs with
        | none => step scl ini o nL env fin (go scl ini o nL tb env pts G rk fin hn n false) e pc st lv A pr nx tab fs ca cb
        | some L => hAll (fun A pr nx tab fs => step scl ini o nL env fin (go scl ini o nL tb env pts G rk fin hn n false) e pc st lv A pr nx tab fs ca cb) L)
      | none => false
