/-! ===== the runner: from a place on, until places that are told, or the end ===== -/
noncomputable def negC (c : Jvm.ClassFile.Cond) : Jvm.ClassFile.Cond := match c with
  | .eq => .ne
  | .ne => .eq
  | .lt => .ge
  | .ge => .lt
  | .gt => .le
  | .le => .gt
noncomputable def asm (c : Jvm.ClassFile.Cond) (tab : Tb) (fs : List Ln) (x y : Ln) : Option (Tb × List Ln) := match c with
  | .lt => addLe tab fs (pluL (subL x y) 1)
  | .ge => addLe tab fs (subL y x)
  | .gt => addLe tab fs (pluL (subL y x) 1)
  | .le => addLe tab fs (subL x y)
  | .eq => match addLe tab fs (subL x y) with
    | some (t, f) => addLe t f (subL y x)
    | none => none
  | .ne => bif le0 tab fs (subL x y) then addLe tab fs (pluL (subL x y) 1) else bif le0 tab fs (subL y x) then addLe tab fs (pluL (subL y x) 1) else some (tab, fs)
noncomputable def cndZ (c : Jvm.ClassFile.Cond) (a b : Int) : Prop := match c with
  | .lt => a < b
  | .ge => b ≤ a
  | .gt => b < a
  | .le => a ≤ b
  | .eq => a = b
  | .ne => a ≠ b
theorem asm_ok {ρ : Nat → Int} {tab : Tb} {fs : List Ln} (ht : tOk ρ tab) (hf : fOk ρ fs) {c : Jvm.ClassFile.Cond} {x y : Ln} (h : cndZ c (ev ρ x) (ev ρ y)) : ∃ tab' fs', asm c tab fs x y = some (tab', fs') ∧ tOk ρ tab' ∧ fOk ρ fs' := by
  have sub : ∀ {t : Tb} {f : List Ln} {a b : Ln}, tOk ρ t → fOk ρ f → ev ρ a ≤ ev ρ b → ∃ tab' fs', addLe t f (subL a b) = some (tab', fs') ∧ tOk ρ tab' ∧ fOk ρ fs' := fun ht hf h => addLe_ok ht hf (by rw [ev_sub]; omega)
  have sub1 : ∀ {t : Tb} {f : List Ln} {a b : Ln}, tOk ρ t → fOk ρ f → ev ρ a < ev ρ b → ∃ tab' fs', addLe t f (pluL (subL a b) 1) = some (tab', fs') ∧ tOk ρ tab' ∧ fOk ρ fs' := fun ht hf h => addLe_ok ht hf (by rw [ev_plu, ev_sub]; omega)
  cases c with
  | lt => exact sub1 ht hf h
  | ge => exact sub ht hf h
  | gt => exact sub1 ht hf h
  | le => exact sub ht hf h
  | eq =>
    have h' : ev ρ x = ev ρ y := h
    obtain ⟨t, f, e, h1, h2⟩ := sub (a := x) (b := y) ht hf (by omega)
    unfold asm
    simp only [e]
    exact sub h1 h2 (by omega)
  | ne =>
    have h' : ev ρ x ≠ ev ρ y := h
    unfold asm
    try dsimp only
    cases h1 : le0 tab fs (subL x y) with
    | true =>
      have q := le0_ok ht hf h1
      rw [ev_sub] at q
      exact sub1 ht hf (by omega)
    | false =>
      cases h2 : le0 tab fs (subL y x) with
      | true =>
        have q := le0_ok ht hf h2
        rw [ev_sub] at q
        exact sub1 ht hf (by omega)
      | false => exact ⟨tab, fs, rfl, ht, hf⟩
theorem cnd_iff {c : Jvm.ClassFile.Cond} {x y : Int32} : cnd c x y = true ↔ cndZ c x.toInt y.toInt := by
  cases c <;> simp only [cnd, cndZ, decide_eq_true_eq, Int32.lt_iff_toInt_lt, Int32.le_iff_toInt_le, Int32.toInt_inj, ne_eq]
theorem cndZ_neg {c : Jvm.ClassFile.Cond} {a b : Int} (h : ¬ cndZ c a b) : cndZ (negC c) a b := by
  cases c <;> simp only [cndZ, negC] at h ⊢ <;> omega
theorem cnd_neg {c : Jvm.ClassFile.Cond} {x y : Int32} (h : cnd c x y = false) : cndZ (negC c) x.toInt y.toInt := cndZ_neg fun q => by rw [cnd_iff.mpr q] at h; cases h
theorem cmpZ_cnd {c : Jvm.ClassFile.Cond} {a b : Int} : cndZ c (cmpZ a b).toInt (0 : Int32).toInt ↔ cndZ c a b := by
  have e0 : (0 : Int32).toInt = 0 := rfl
  have e1 : (1 : Int32).toInt = 1 := rfl
  have e2 : (-1 : Int32).toInt = -1 := rfl
  unfold cmpZ
  rw [e0]
  by_cases h1 : b < a
  · rw [if_pos h1, e1]
    cases c <;> simp only [cndZ] <;> omega
  · rw [if_neg h1]
    by_cases h2 : a = b
    · subst h2
      rw [if_pos rfl, e0]
      cases c <;> simp [cndZ]
    · rw [if_neg h2, e2]
      cases c <;> simp only [cndZ] <;> omega
noncomputable def jmpA (pc : Nat) (off : Int) : Option Nat := match Int.add (.ofNat pc) off with
  | .ofNat t => some t
  | .negSucc _ => none
theorem jmpA_ok {pc t : Nat} {off : Int} (h : jmpA pc off = some t) : jmp pc off = some t := by
  unfold jmpA at h
  split at h
  · rename_i t' he
    cases h
    have he' : (pc : Int) + off = (t : Int) := he
    unfold jmp
    rw [he', if_pos (Int.natCast_nonneg t)]
    rfl
  · cases h
-- points, contracts
abbrev PE : Type := Nat × List Nat × Pt × List Ln × Option Ln × Nat × Nat
abbrev Ot : Type := Pt × Nat × Nat
abbrev Ct : Type := Nat × Nat × Pt × List Ot
noncomputable def hasPc (pc : Nat) : List PE → Bool
  | [] => false
  | p :: r => bif Nat.beq pc p.1 then true else hasPc pc r
noncomputable def lvAt (lv : AL) : List Nat → Option (List AV) :=
  fun e_0 => List.rec (motive := fun _ => Option (List AV)) (some []) (fun h_0 t_0 ih => (Option.rec (motive := fun _ => Option (List AV)) none (fun a_2299 => (Option.rec (motive := fun _ => Option (List AV)) none (fun q_2300 => (some (a_2299 :: q_2300))) (ih))) (alGet h_0 lv))) e_0 
theorem lvAt_def (lv : AL) (e_0 : List Nat) : lvAt lv e_0 = (match e_0 with
  | [] => some []
  | k :: r => match alGet k lv with
    | some a => (match lvAt lv r with
      | some q => some (a :: q)
      | none => none)
    | none => none) := by
  cases e_0 with
  | nil =>
    show (some []) = _
    try simp only [iAddQ_eq, iMulQ_eq, iNegQ_eq, lenQ_eq, nthQ_eq, setQ_eq, appQ_eq, mapQ_eq, allQ_eq, anyQ_eq, dropQ_eq, takeQ_eq, revQ_eq, getDQ_eq, optLQ_eq, brecC]
    all_goals rfl
  | cons h_0 t_0 =>
    show (Option.rec (motive := fun _ => Option (List AV)) none (fun a_2301 => (Option.rec (motive := fun _ => Option (List AV)) none (fun q_2302 => (some (a_2301 :: q_2302))) (lvAt lv t_0))) (alGet h_0 lv)) = _
    try simp only [iAddQ_eq, iMulQ_eq, iNegQ_eq, lenQ_eq, nthQ_eq, setQ_eq, appQ_eq, mapQ_eq, allQ_eq, anyQ_eq, dropQ_eq, takeQ_eq, revQ_eq, getDQ_eq, optLQ_eq, brecC]
    all_goals
      cases hq_1 : (alGet h_0 lv) with
      | none =>
        try dsimp only [cond_false, cond_true]
        all_goals rfl
      | some y_2303 =>
        try dsimp only [cond_false, cond_true]
        all_goals
          cases hq_2 : (lvAt lv t_0) with
          | none =>
            try dsimp only [cond_false, cond_true]
            all_goals rfl
          | some y_2304 =>
            try dsimp only [cond_false, cond_true]
            all_goals rfl
noncomputable def rkLt_a0 :=
  fun (tab : Tb) (fs : List Ln) (θ : Th) (r_2307 : Ln) (q_2308 : Ln) => ((le0 tab fs (pluL (subL (sbL θ r_2307) q_2308) (.ofNat (nat_lit 1)))) : Bool)
noncomputable def rkLt (tab : Tb) (fs : List Ln) (θ : Th) (rk r : Option Ln) : Bool :=
  (Option.rec (motive := fun _ => Bool) true (fun r_2307 => (Option.rec (motive := fun _ => Bool) true (fun q_2308 => (rkLt_a0 tab fs θ r_2307 q_2308)) rk)) r)
theorem rkLt_def (tab : Tb) (fs : List Ln) (θ : Th) (rk r : Option Ln) : rkLt tab fs θ rk r = (match r with
  | none => true
  | some r => match rk with
    | none => true
    | some q => le0 tab fs (pluL (subL (sbL θ r) q) 1)) := by
  show (Option.rec (motive := fun _ => Bool) true (fun r_2305 => (Option.rec (motive := fun _ => Bool) true (fun q_2306 => (le0 tab fs (pluL (subL (sbL θ r_2305) q_2306) (.ofNat (nat_lit 1))))) rk)) r) = _
  all_goals
    cases r with
    | none =>
      try dsimp only [cond_false, cond_true]
      all_goals rfl
    | some y_2309 =>
      try dsimp only [cond_false, cond_true]
      all_goals
        cases rk with
        | none =>
          try dsimp only [cond_false, cond_true]
          all_goals rfl
        | some y_2310 =>
          try dsimp only [cond_false, cond_true]
          all_goals rfl
noncomputable def uniG  : Un → List Ln → List Ln → Un :=
  fun θ e_0 e_1 => List.rec (motive := fun _ => Un → List Ln → Un) (fun θ e_1 => θ) (fun h_0 t_0 ih θ e_1 => (List.rec (motive := fun _ => Un) θ (fun a_2311 q_2312 _ => (ih (uniL θ h_0 a_2311) q_2312)) e_1)) e_0 θ e_1
theorem uniG_def  (θ : Un) (e_0 : List Ln) (e_1 : List Ln) : uniG  θ e_0 e_1 = (match e_0, e_1 with
  | p :: r, a :: q => uniG (uniL θ p a) r q
  | _, _ => θ) := by
  cases e_0 with
  | nil =>
    show θ = _
    try simp only [iAddQ_eq, iMulQ_eq, iNegQ_eq, lenQ_eq, nthQ_eq, setQ_eq, appQ_eq, mapQ_eq, allQ_eq, anyQ_eq, dropQ_eq, takeQ_eq, revQ_eq, getDQ_eq, optLQ_eq, brecC]
    all_goals rfl
  | cons h_0 t_0 =>
    show (List.rec (motive := fun _ => Un) θ (fun a_2313 q_2314 _ => (uniG (uniL θ h_0 a_2313) t_0 q_2314)) e_1) = _
    try simp only [iAddQ_eq, iMulQ_eq, iNegQ_eq, lenQ_eq, nthQ_eq, setQ_eq, appQ_eq, mapQ_eq, allQ_eq, anyQ_eq, dropQ_eq, takeQ_eq, revQ_eq, getDQ_eq, optLQ_eq, brecC]
    all_goals
      cases e_1 with
      | nil =>
        try dsimp only [cond_false, cond_true]
        all_goals rfl
      | cons y_2315 y_2316 =>
        try dsimp only [cond_false, cond_true]
        all_goals rfl
noncomputable def chkG_a0 :=
  fun (ih : List Ln → Bool) (q_2320 : List Ln) (tab : Tb) (fs : List Ln) (θ : Th) (h_0 : Ln) (a_2319 : Ln) => ((Bool.rec (motive := fun _ => Bool) false (ih q_2320) (eqL tab fs (sbL θ h_0) a_2319)) : Bool)
noncomputable def chkG (tab : Tb) (fs : List Ln) (θ : Th) : List Ln → List Ln → Bool :=
  fun e_0 e_1 => List.rec (motive := fun _ => List Ln → Bool) (fun e_1 => (List.rec (motive := fun _ => Bool) true (fun x_2317 x_2318 _ => false) e_1)) (fun h_0 t_0 ih e_1 => (List.rec (motive := fun _ => Bool) false (fun a_2319 q_2320 _ => (chkG_a0 ih q_2320 tab fs θ h_0 a_2319)) e_1)) e_0 e_1
theorem chkG_def (tab : Tb) (fs : List Ln) (θ : Th) (e_0 : List Ln) (e_1 : List Ln) : chkG tab fs θ e_0 e_1 = (match e_0, e_1 with
  | [], [] => true
  | p :: r, a :: q => bif eqL tab fs (sbL θ p) a then chkG tab fs θ r q else false
  | _, _ => false) := by
  cases e_0 with
  | nil =>
    show (List.rec (motive := fun _ => Bool) true (fun x_2321 x_2322 _ => false) e_1) = _
    try simp only [iAddQ_eq, iMulQ_eq, iNegQ_eq, lenQ_eq, nthQ_eq, setQ_eq, appQ_eq, mapQ_eq, allQ_eq, anyQ_eq, dropQ_eq, takeQ_eq, revQ_eq, getDQ_eq, optLQ_eq, brecC]
    all_goals
      cases e_1 with
      | nil =>
        try dsimp only [cond_false, cond_true]
        all_goals rfl
      | cons y_2323 y_2324 =>
        try dsimp only [cond_false, cond_true]
        all_goals rfl
  | cons h_0 t_0 =>
    show (List.rec (motive := fun _ => Bool) false (fun a_2325 q_2326 _ => (Bool.rec (motive := fun _ => Bool) false (chkG tab fs θ t_0 q_2326) (eqL tab fs (sbL θ h_0) a_2325))) e_1) = _
    try simp only [iAddQ_eq, iMulQ_eq, iNegQ_eq, lenQ_eq, nthQ_eq, setQ_eq, appQ_eq, mapQ_eq, allQ_eq, anyQ_eq, dropQ_eq, takeQ_eq, revQ_eq, getDQ_eq, optLQ_eq, brecC]
    all_goals
      cases e_1 with
      | nil =>
        try dsimp only [cond_false, cond_true]
        all_goals rfl
      | cons y_2327 y_2328 =>
        try dsimp only [cond_false, cond_true]
        all_goals
          cases hq_3 : (eqL tab fs ((sbL θ h_0)) y_2327) with
          | false =>
            try dsimp only [cond_false, cond_true]
            all_goals rfl
          | true =>
            try dsimp only [cond_false, cond_true]
            all_goals rfl
/-- the numbers carried along: the same symbols, or found equal -/
noncomputable def chkGR (n : Nat) (tab : Tb) (fs : List Ln) (θ : Th) (P G : List Ln) : Bool :=
  (Bool.rec (motive := fun _ => Bool) (chkG tab fs θ P G) true (Bool.rec (motive := fun _ => Bool) false (isSy n (nat_lit 0) G) (isSy n (nat_lit 0) P)))
theorem chkGR_def (n : Nat) (tab : Tb) (fs : List Ln) (θ : Th) (P G : List Ln) : chkGR n tab fs θ P G = bif (bif isSy n 0 P then isSy n 0 G else false) then true else chkG tab fs θ P G := by
  show (Bool.rec (motive := fun _ => Bool) (chkG tab fs θ P G) true (Bool.rec (motive := fun _ => Bool) false (isSy n (nat_lit 0) G) (isSy n (nat_lit 0) P))) = _
  try simp only [iAddQ_eq, iMulQ_eq, iNegQ_eq, lenQ_eq, nthQ_eq, setQ_eq, appQ_eq, mapQ_eq, allQ_eq, anyQ_eq, dropQ_eq, takeQ_eq, revQ_eq, getDQ_eq, optLQ_eq, brecC]
  all_goals
    cases hq_1 : ((bif (isSy n 0 P) then (isSy n 0 G) else false)) with
    | false =>
      try dsimp only [cond_false, cond_true]
      all_goals rfl
    | true =>
      try dsimp only [cond_false, cond_true]
      all_goals rfl
noncomputable def onePt_a0 :=
  fun (cb : Nat) (p : PE) (ca : Nat) => ((Bool.rec (motive := fun _ => Bool) false (Nat.ble cb p.2.2.2.2.2.2) (Nat.ble ca p.2.2.2.2.2.1)) : Bool)
noncomputable def onePt_a1 :=
  fun (cb : Nat) (p : PE) (ca : Nat) (tab : Tb) (fs : List Ln) (θ : Th) (rk : Option Ln) => ((Bool.rec (motive := fun _ => Bool) false (onePt_a0 cb p ca) (rkLt tab fs θ rk p.2.2.2.2.1)) : Bool)
noncomputable def onePt_a2 :=
  fun (cb : Nat) (p : PE) (ca : Nat) (tab : Tb) (fs : List Ln) (θ : Th) (rk : Option Ln) (n : Nat) (vs : List AV) (A : AH) (pr : List PD) => ((Bool.rec (motive := fun _ => Bool) false (onePt_a1 cb p ca tab fs θ rk) (instPR n tab fs θ p.2.2.1 vs A pr)) : Bool)
noncomputable def onePt (n : Nat) (G : List Ln) (rk : Option Ln) (A : AH) (pr : List PD) (tab : Tb) (fs : List Ln) (ca cb : Nat) (p : PE) (vs : List AV) (θ : Th) : Bool :=
  (Bool.rec (motive := fun _ => Bool) false (onePt_a2 cb p ca tab fs θ rk n vs A pr) (chkGR n tab fs θ p.2.2.2.1 G))
theorem onePt_def (n : Nat) (G : List Ln) (rk : Option Ln) (A : AH) (pr : List PD) (tab : Tb) (fs : List Ln) (ca cb : Nat) (p : PE) (vs : List AV) (θ : Th) : onePt n G rk A pr tab fs ca cb p vs θ = bif chkGR n tab fs θ p.2.2.2.1 G then (bif instPR n tab fs θ p.2.2.1 vs A pr then (bif rkLt tab fs θ rk p.2.2.2.2.1 then (bif Nat.ble ca p.2.2.2.2.2.1 then Nat.ble cb p.2.2.2.2.2.2 else false) else false) else false) else false := by
  show (Bool.rec (motive := fun _ => Bool) false (Bool.rec (motive := fun _ => Bool) false (Bool.rec (motive := fun _ => Bool) false (Bool.rec (motive := fun _ => Bool) false (Nat.ble cb p.2.2.2.2.2.2) (Nat.ble ca p.2.2.2.2.2.1)) (rkLt tab fs θ rk p.2.2.2.2.1)) (instPR n tab fs θ p.2.2.1 vs A pr)) (chkGR n tab fs θ p.2.2.2.1 G)) = _
  try simp only [iAddQ_eq, iMulQ_eq, iNegQ_eq, lenQ_eq, nthQ_eq, setQ_eq, appQ_eq, mapQ_eq, allQ_eq, anyQ_eq, dropQ_eq, takeQ_eq, revQ_eq, getDQ_eq, optLQ_eq, brecC]
  all_goals
    cases hq_1 : (chkGR n tab fs θ p.2.2.2.1 G) with
    | false =>
      try dsimp only [cond_false, cond_true]
      all_goals rfl
    | true =>
      try dsimp only [cond_false, cond_true]
      all_goals
        cases hq_2 : (instPR n tab fs θ p.2.2.1 vs A pr) with
        | false =>
          try dsimp only [cond_false, cond_true]
          all_goals rfl
        | true =>
          try dsimp only [cond_false, cond_true]
          all_goals
            cases hq_3 : (rkLt tab fs θ rk p.2.2.2.2.1) with
            | false =>
              try dsimp only [cond_false, cond_true]
              all_goals rfl
            | true =>
              try dsimp only [cond_false, cond_true]
              all_goals
                cases hq_4 : (Nat.ble ca p.2.2.2.2.2.1) with
                | false =>
                  try dsimp only [cond_false, cond_true]
                  all_goals rfl
                | true =>
                  try dsimp only [cond_false, cond_true]
                  all_goals rfl
noncomputable def uniGR (n : Nat) (P G : List Ln) : Un :=
  (Bool.rec (motive := fun _ => Un) (unR n) (uniG un0 P G) (Nat.beq n (nat_lit 0)))
theorem uniGR_def (n : Nat) (P G : List Ln) : uniGR n P G = bif Nat.beq n 0 then uniG un0 P G else unR n := by
  show (Bool.rec (motive := fun _ => Un) (unR n) (uniG un0 P G) (Nat.beq n (nat_lit 0))) = _
  try simp only [iAddQ_eq, iMulQ_eq, iNegQ_eq, lenQ_eq, nthQ_eq, setQ_eq, appQ_eq, mapQ_eq, allQ_eq, anyQ_eq, dropQ_eq, takeQ_eq, revQ_eq, getDQ_eq, optLQ_eq, brecC]
  all_goals
    cases hq_1 : (Nat.beq n 0) with
    | false =>
      try dsimp only [cond_false, cond_true]
      all_goals rfl
    | true =>
      try dsimp only [cond_false, cond_true]
      all_goals rfl
/-- a cheap look ahead: constants among the values -/
noncomputable def preVs_a0 :=
  fun (ih : List AV → Bool) (q_2338 : List AV) (c_2333 : Int) (c_2343 : Int) => ((Bool.rec (motive := fun _ => Bool) false (ih q_2338) (eqI c_2333 c_2343)) : Bool)
noncomputable def preVs (tab : Tb) : List AV → List AV → Bool :=
  fun e_0 e_1 => List.rec (motive := fun _ => List AV → Bool) (fun e_1 => true) (fun h_0 t_0 ih e_1 => (Sum.rec (motive := fun _ => Bool) (fun x_2329 => (Prod.rec (motive := fun _ => Bool) (fun x_2331 x_2332 => (Prod.rec (motive := fun _ => Bool) (fun c_2333 x_2334 => (List.rec (motive := fun _ => Bool) (List.rec (motive := fun _ => Bool) true (fun x_2337 q_2338 _ => (Sum.rec (motive := fun _ => Bool) (fun x_2339 => (Prod.rec (motive := fun _ => Bool) (fun x_2341 e_2342 => (Option.rec (motive := fun _ => Bool) (ih q_2338) (fun c_2343 => (preVs_a0 ih q_2338 c_2333 c_2343)) (cst tab e_2342))) x_2339)) (fun x_2340 => (ih q_2338)) x_2337)) e_1) (fun x_2335 x_2336 _ => (List.rec (motive := fun _ => Bool) true (fun x_2344 q_2345 _ => (ih q_2345)) e_1)) x_2334)) x_2332)) x_2329)) (fun x_2330 => (List.rec (motive := fun _ => Bool) true (fun x_2346 q_2347 _ => (ih q_2347)) e_1)) h_0)) e_0 e_1
theorem preVs_def (tab : Tb) (e_0 : List AV) (e_1 : List AV) : preVs tab e_0 e_1 = (match e_0, e_1 with
  | .inl (_, (c, [])) :: r, .inl (_, e) :: q => (match cst tab e with
    | some c' => bif eqI c c' then preVs tab r q else false
    | none => preVs tab r q)
  | _ :: r, _ :: q => preVs tab r q
  | _, _ => true) := by
  cases e_0 with
  | nil =>
    show true = _
    try simp only [iAddQ_eq, iMulQ_eq, iNegQ_eq, lenQ_eq, nthQ_eq, setQ_eq, appQ_eq, mapQ_eq, allQ_eq, anyQ_eq, dropQ_eq, takeQ_eq, revQ_eq, getDQ_eq, optLQ_eq, brecC]
    all_goals rfl
  | cons h_0 t_0 =>
    show (Sum.rec (motive := fun _ => Bool) (fun x_2348 => (Prod.rec (motive := fun _ => Bool) (fun x_2350 x_2351 => (Prod.rec (motive := fun _ => Bool) (fun c_2352 x_2353 => (List.rec (motive := fun _ => Bool) (List.rec (motive := fun _ => Bool) true (fun x_2356 q_2357 _ => (Sum.rec (motive := fun _ => Bool) (fun x_2358 => (Prod.rec (motive := fun _ => Bool) (fun x_2360 e_2361 => (Option.rec (motive := fun _ => Bool) (preVs tab t_0 q_2357) (fun c_2362 => (Bool.rec (motive := fun _ => Bool) false (preVs tab t_0 q_2357) (eqI c_2352 c_2362))) (cst tab e_2361))) x_2358)) (fun x_2359 => (preVs tab t_0 q_2357)) x_2356)) e_1) (fun x_2354 x_2355 _ => (List.rec (motive := fun _ => Bool) true (fun x_2363 q_2364 _ => (preVs tab t_0 q_2364)) e_1)) x_2353)) x_2351)) x_2348)) (fun x_2349 => (List.rec (motive := fun _ => Bool) true (fun x_2365 q_2366 _ => (preVs tab t_0 q_2366)) e_1)) h_0) = _
    try simp only [iAddQ_eq, iMulQ_eq, iNegQ_eq, lenQ_eq, nthQ_eq, setQ_eq, appQ_eq, mapQ_eq, allQ_eq, anyQ_eq, dropQ_eq, takeQ_eq, revQ_eq, getDQ_eq, optLQ_eq, brecC]
    all_goals
      cases h_0 with
      | inl y_2367 =>
        try dsimp only [cond_false, cond_true]
        all_goals
          cases y_2367 with
          | mk y_2368 y_2369 =>
            try dsimp only [cond_false, cond_true]
            all_goals
              cases y_2369 with
              | mk y_2370 y_2371 =>
                try dsimp only [cond_false, cond_true]
                all_goals
                  cases y_2371 with
                  | nil =>
                    try dsimp only [cond_false, cond_true]
                    all_goals
                      cases e_1 with
                      | nil =>
                        try dsimp only [cond_false, cond_true]
                        all_goals rfl
                      | cons y_2372 y_2373 =>
                        try dsimp only [cond_false, cond_true]
                        all_goals
                          cases y_2372 with
                          | inl y_2374 =>
                            try dsimp only [cond_false, cond_true]
                            all_goals
                              cases y_2374 with
                              | mk y_2375 y_2376 =>
                                try dsimp only [cond_false, cond_true]
                                all_goals
                                  cases hq_8 : (cst tab y_2376) with
                                  | none =>
                                    try dsimp only [cond_false, cond_true]
                                    all_goals rfl
                                  | some y_2377 =>
                                    try dsimp only [cond_false, cond_true]
                                    all_goals
                                      cases hq_9 : (eqI y_2370 y_2377) with
                                      | false =>
                                        try dsimp only [cond_false, cond_true]
                                        all_goals rfl
                                      | true =>
                                        try dsimp only [cond_false, cond_true]
                                        all_goals rfl
                          | inr y_2378 =>
                            try dsimp only [cond_false, cond_true]
                            all_goals rfl
                  | cons y_2379 y_2380 =>
                    try dsimp only [cond_false, cond_true]
                    all_goals
                      cases e_1 with
                      | nil =>
                        try dsimp only [cond_false, cond_true]
                        all_goals rfl
                      | cons y_2381 y_2382 =>
                        try dsimp only [cond_false, cond_true]
                        all_goals rfl
      | inr y_2383 =>
        try dsimp only [cond_false, cond_true]
        all_goals
          cases e_1 with
          | nil =>
            try dsimp only [cond_false, cond_true]
            all_goals rfl
          | cons y_2384 y_2385 =>
            try dsimp only [cond_false, cond_true]
            all_goals rfl
/-- another cheap look: as many cells, and the constants of the first one -/
noncomputable def lookC (tab : Tb) (P A : AH) : Bool :=
  (List.rec (motive := fun _ => Bool) true (fun x_2398 x_2399 _ => (Sum.rec (motive := fun _ => Bool) (fun x_2400 => (Prod.rec (motive := fun _ => Bool) (fun x_2402 p_2403 => (List.rec (motive := fun _ => Bool) true (fun x_2404 x_2405 _ => (Sum.rec (motive := fun _ => Bool) (fun x_2406 => (Prod.rec (motive := fun _ => Bool) (fun x_2408 a_2409 => (preVs tab p_2403 a_2409)) x_2406)) (fun x_2407 => true) x_2404)) A)) x_2400)) (fun x_2401 => true) x_2398)) P)
theorem lookC_def (tab : Tb) (P A : AH) : lookC tab P A = (match P, A with
  | .inl (_, p) :: _, .inl (_, a) :: _ => preVs tab p a
  | _, _ => true) := by
  show (List.rec (motive := fun _ => Bool) true (fun x_2386 x_2387 _ => (Sum.rec (motive := fun _ => Bool) (fun x_2388 => (Prod.rec (motive := fun _ => Bool) (fun x_2390 p_2391 => (List.rec (motive := fun _ => Bool) true (fun x_2392 x_2393 _ => (Sum.rec (motive := fun _ => Bool) (fun x_2394 => (Prod.rec (motive := fun _ => Bool) (fun x_2396 a_2397 => (preVs tab p_2391 a_2397)) x_2394)) (fun x_2395 => true) x_2392)) A)) x_2388)) (fun x_2389 => true) x_2386)) P) = _
  all_goals
    cases P with
    | nil =>
      try dsimp only [cond_false, cond_true]
      all_goals rfl
    | cons y_2410 y_2411 =>
      try dsimp only [cond_false, cond_true]
      all_goals
        cases y_2410 with
        | inl y_2412 =>
          try dsimp only [cond_false, cond_true]
          all_goals
            cases y_2412 with
            | mk y_2413 y_2414 =>
              try dsimp only [cond_false, cond_true]
              all_goals
                cases A with
                | nil =>
                  try dsimp only [cond_false, cond_true]
                  all_goals rfl
                | cons y_2415 y_2416 =>
                  try dsimp only [cond_false, cond_true]
                  all_goals
                    cases y_2415 with
                    | inl y_2417 =>
                      try dsimp only [cond_false, cond_true]
                      all_goals
                        cases y_2417 with
                        | mk y_2418 y_2419 =>
                          try dsimp only [cond_false, cond_true]
                          all_goals rfl
                    | inr y_2420 =>
                      try dsimp only [cond_false, cond_true]
                      all_goals rfl
        | inr y_2421 =>
          try dsimp only [cond_false, cond_true]
          all_goals rfl
noncomputable def atPt_a0 :=
  fun (n : Nat) (tab : Tb) (fs : List Ln) (pr : List PD) (p : PE) (G : List Ln) (st : List AV) (q_2423 : (List AV)) (A : AH) (rk : Option Ln) (ca : Nat) (cb : Nat) => ((withR n (uniP tab fs pr (uniHR n (uniVs (uniGR n p.2.2.2.1 G) p.2.2.1.2.2.2.1 (appQ st q_2423)) p.2.2.1.2.2.2.2.1 A) p.2.2.1.2.2.2.2.2) (onePt n G rk A pr tab fs ca cb p (appQ st q_2423))) : Bool)
noncomputable def atPt_a1 :=
  fun (n : Nat) (tab : Tb) (fs : List Ln) (pr : List PD) (p : PE) (G : List Ln) (st : List AV) (q_2423 : (List AV)) (A : AH) (rk : Option Ln) (ca : Nat) (cb : Nat) => ((Bool.rec (motive := fun _ => Bool) false (atPt_a0 n tab fs pr p G st q_2423 A rk ca cb) (Nat.beq (lenQ p.2.2.1.2.2.2.2.1) (lenQ A))) : Bool)
noncomputable def atPt_a2 :=
  fun (n : Nat) (tab : Tb) (fs : List Ln) (pr : List PD) (p : PE) (G : List Ln) (st : List AV) (q_2423 : (List AV)) (A : AH) (rk : Option Ln) (ca : Nat) (cb : Nat) => ((Bool.rec (motive := fun _ => Bool) false (atPt_a1 n tab fs pr p G st q_2423 A rk ca cb) (lookC tab p.2.2.1.2.2.2.2.1 A)) : Bool)
noncomputable def atPt_a3 :=
  fun (n : Nat) (tab : Tb) (fs : List Ln) (pr : List PD) (p : PE) (G : List Ln) (st : List AV) (q_2423 : (List AV)) (A : AH) (rk : Option Ln) (ca : Nat) (cb : Nat) => ((Bool.rec (motive := fun _ => Bool) false (atPt_a2 n tab fs pr p G st q_2423 A rk ca cb) (preVs tab p.2.2.1.2.2.2.1 (appQ st q_2423))) : Bool)
noncomputable def atPt_a4 :=
  fun (n : Nat) (tab : Tb) (fs : List Ln) (pr : List PD) (p : PE) (G : List Ln) (st : List AV) (q_2423 : (List AV)) (A : AH) (rk : Option Ln) (ca : Nat) (cb : Nat) => ((Bool.rec (motive := fun _ => Bool) false (atPt_a3 n tab fs pr p G st q_2423 A rk ca cb) (Nat.beq (Nat.add (lenQ st) (lenQ p.2.1)) (lenQ p.2.2.1.2.2.2.1))) : Bool)
noncomputable def atPt (n : Nat) (G : List Ln) (rk : Option Ln) (pc : Nat) (st : List AV) (lv : AL) (A : AH) (pr : List PD) (tab : Tb) (fs : List Ln) (ca cb : Nat) (p : PE) : Bool :=
  (Bool.rec (motive := fun _ => Bool) false (Option.rec (motive := fun _ => Bool) false (fun q_2423 => (atPt_a4 n tab fs pr p G st q_2423 A rk ca cb)) (lvAt lv p.2.1)) (Nat.beq pc p.1))
theorem atPt_def (n : Nat) (G : List Ln) (rk : Option Ln) (pc : Nat) (st : List AV) (lv : AL) (A : AH) (pr : List PD) (tab : Tb) (fs : List Ln) (ca cb : Nat) (p : PE) : atPt n G rk pc st lv A pr tab fs ca cb p = (bif Nat.beq pc p.1 then (match lvAt lv p.2.1 with
  | some q => (bif Nat.beq (Nat.add st.length p.2.1.length) p.2.2.1.2.2.2.1.length then (bif preVs tab p.2.2.1.2.2.2.1 (st ++ q) then (bif lookC tab p.2.2.1.2.2.2.2.1 A then (bif Nat.beq p.2.2.1.2.2.2.2.1.length A.length then withR n (uniP tab fs pr (uniHR n (uniVs (uniGR n p.2.2.2.1 G) p.2.2.1.2.2.2.1 (st ++ q)) p.2.2.1.2.2.2.2.1 A) p.2.2.1.2.2.2.2.2) (onePt n G rk A pr tab fs ca cb p (st ++ q)) else false) else false) else false) else false)
  | none => false) else false) := by
  show (Bool.rec (motive := fun _ => Bool) false (Option.rec (motive := fun _ => Bool) false (fun q_2422 => (Bool.rec (motive := fun _ => Bool) false (Bool.rec (motive := fun _ => Bool) false (Bool.rec (motive := fun _ => Bool) false (Bool.rec (motive := fun _ => Bool) false (withR n (uniP tab fs pr (uniHR n (uniVs (uniGR n p.2.2.2.1 G) p.2.2.1.2.2.2.1 (appQ st q_2422)) p.2.2.1.2.2.2.2.1 A) p.2.2.1.2.2.2.2.2) (onePt n G rk A pr tab fs ca cb p (appQ st q_2422))) (Nat.beq (lenQ p.2.2.1.2.2.2.2.1) (lenQ A))) (lookC tab p.2.2.1.2.2.2.2.1 A)) (preVs tab p.2.2.1.2.2.2.1 (appQ st q_2422))) (Nat.beq (Nat.add (lenQ st) (lenQ p.2.1)) (lenQ p.2.2.1.2.2.2.1)))) (lvAt lv p.2.1)) (Nat.beq pc p.1)) = _
  try simp only [iAddQ_eq, iMulQ_eq, iNegQ_eq, lenQ_eq, nthQ_eq, setQ_eq, appQ_eq, mapQ_eq, allQ_eq, anyQ_eq, dropQ_eq, takeQ_eq, revQ_eq, getDQ_eq, optLQ_eq, brecC]
  all_goals
    cases hq_1 : (Nat.beq pc p.1) with
    | false =>
      try dsimp only [cond_false, cond_true]
      all_goals rfl
    | true =>
      try dsimp only [cond_false, cond_true]
      all_goals
        cases hq_2 : (lvAt lv p.2.1) with
        | none =>
          try dsimp only [cond_false, cond_true]
          all_goals rfl
        | some y_2424 =>
          try dsimp only [cond_false, cond_true]
          all_goals
            cases hq_3 : (Nat.beq ((Nat.add st.length p.2.1.length)) p.2.2.1.2.2.2.1.length) with
            | false =>
              try dsimp only [cond_false, cond_true]
              all_goals rfl
            | true =>
              try dsimp only [cond_false, cond_true]
              all_goals
                cases hq_4 : (preVs tab p.2.2.1.2.2.2.1 ((st ++ y_2424))) with
                | false =>
                  try dsimp only [cond_false, cond_true]
                  all_goals rfl
                | true =>
                  try dsimp only [cond_false, cond_true]
                  all_goals
                    cases hq_5 : (lookC tab p.2.2.1.2.2.2.2.1 A) with
                    | false =>
                      try dsimp only [cond_false, cond_true]
                      all_goals rfl
                    | true =>
                      try dsimp only [cond_false, cond_true]
                      all_goals
                        cases hq_6 : (Nat.beq p.2.2.1.2.2.2.2.1.length A.length) with
                        | false =>
                          try dsimp only [cond_false, cond_true]
                          all_goals rfl
                        | true =>
                          try dsimp only [cond_false, cond_true]
                          all_goals rfl
noncomputable def anyPt_a0 :=
  fun (ih : Bool) (n : Nat) (G : List Ln) (rk : Option Ln) (pc : Nat) (st : List AV) (lv : AL) (A : AH) (pr : List PD) (tab : Tb) (fs : List Ln) (ca : Nat) (cb : Nat) (h_0 : PE) => ((Bool.rec (motive := fun _ => Bool) (ih) true (atPt n G rk pc st lv A pr tab fs ca cb h_0)) : Bool)
noncomputable def anyPt (n : Nat) (G : List Ln) (rk : Option Ln) (pc : Nat) (st : List AV) (lv : AL) (A : AH) (pr : List PD) (tab : Tb) (fs : List Ln) (ca cb : Nat) : List PE → Bool :=
  fun e_0 => List.rec (motive := fun _ => Bool) false (fun h_0 t_0 ih => (anyPt_a0 ih n G rk pc st lv A pr tab fs ca cb h_0)) e_0 
theorem anyPt_def (n : Nat) (G : List Ln) (rk : Option Ln) (pc : Nat) (st : List AV) (lv : AL) (A : AH) (pr : List PD) (tab : Tb) (fs : List Ln) (ca cb : Nat) (e_0 : List PE) : anyPt n G rk pc st lv A pr tab fs ca cb e_0 = (match e_0 with
  | [] => false
  | p :: r => bif atPt n G rk pc st lv A pr tab fs ca cb p then true else anyPt n G rk pc st lv A pr tab fs ca cb r) := by
  cases e_0 with
  | nil =>
    show false = _
    try simp only [iAddQ_eq, iMulQ_eq, iNegQ_eq, lenQ_eq, nthQ_eq, setQ_eq, appQ_eq, mapQ_eq, allQ_eq, anyQ_eq, dropQ_eq, takeQ_eq, revQ_eq, getDQ_eq, optLQ_eq, brecC]
    all_goals rfl
  | cons h_0 t_0 =>
    show (Bool.rec (motive := fun _ => Bool) (anyPt n G rk pc st lv A pr tab fs ca cb t_0) true (atPt n G rk pc st lv A pr tab fs ca cb h_0)) = _
    try simp only [iAddQ_eq, iMulQ_eq, iNegQ_eq, lenQ_eq, nthQ_eq, setQ_eq, appQ_eq, mapQ_eq, allQ_eq, anyQ_eq, dropQ_eq, takeQ_eq, revQ_eq, getDQ_eq, optLQ_eq, brecC]
    all_goals
      cases hq_1 : (atPt n G rk pc st lv A pr tab fs ca cb h_0) with
      | false =>
        try dsimp only [cond_false, cond_true]
        all_goals rfl
      | true =>
        try dsimp only [cond_false, cond_true]
        all_goals rfl
abbrev KK : Type := Nat → List AV → AL → AH → List PD → Nat → Tb → List Ln → Nat → Nat → Bool
noncomputable def pushF (nx : Nat) (fs : List Ln) (f : Option Ln) : List Ln :=
  (Option.rec (motive := fun _ => List Ln) fs (fun e_2426 => ((subL (sL nx) e_2426) :: fs)) f)
theorem pushF_def (nx : Nat) (fs : List Ln) (f : Option Ln) : pushF nx fs f = (match f with
  | some e => subL (sL nx) e :: fs
  | none => fs) := by
  show (Option.rec (motive := fun _ => List Ln) fs (fun e_2425 => ((subL (sL nx) e_2425) :: fs)) f) = _
  all_goals
    cases f with
    | none =>
      try dsimp only [cond_false, cond_true]
      all_goals rfl
    | some y_2427 =>
      try dsimp only [cond_false, cond_true]
      all_goals rfl
noncomputable def pushR_a0 :=
  fun (k : Nat → Tb → List Ln → AV → Bool) (nx : Nat) (tab : Tb) (fs : List Ln) (lg_2440 : Bool) (e_2442 : Ln) => ((k nx tab fs (.inl (lg_2440, e_2442))) : Bool)
noncomputable def pushR_a1 :=
  fun (k : Nat → Tb → List Ln → AV → Bool) (nx : Nat) (lo_2444 : Int) (hi_2446 : Int) (tab : Tb) (fs : List Ln) (f_2447 : Option Ln) (lg_2440 : Bool) => ((k (Nat.succ nx) (tbIns nx lo_2444 hi_2446 tab) (pushF nx fs f_2447) (.inl (lg_2440, (sL nx)))) : Bool)
noncomputable def pushR_a2 :=
  fun (k : Nat → Tb → List Ln → AV → Bool) (nx : Nat) (tab : Tb) (fs : List Ln) (lg_2440 : Bool) (lo_2444 : Int) => ((k nx tab fs (.inl (lg_2440, (kL lo_2444)))) : Bool)
noncomputable def pushR_a3 :=
  fun (k : Nat → Tb → List Ln → AV → Bool) (nx : Nat) (lo_2444 : Int) (hi_2446 : Int) (tab : Tb) (fs : List Ln) (f_2447 : Option Ln) (lg_2440 : Bool) => ((Bool.rec (motive := fun _ => Bool) (pushR_a1 k nx lo_2444 hi_2446 tab fs f_2447 lg_2440) (pushR_a2 k nx tab fs lg_2440 lo_2444) (eqI lo_2444 hi_2446)) : Bool)
noncomputable def pushR (nx : Nat) (tab : Tb) (fs : List Ln) (r : RV) (k : Nat → Tb → List Ln → AV → Bool) : Bool :=
  (Sum.rec (motive := fun _ => Bool) (fun v_2438 => (k nx tab fs v_2438)) (fun x_2439 => (Prod.rec (motive := fun _ => Bool) (fun lg_2440 x_2441 => (Sum.rec (motive := fun _ => Bool) (fun e_2442 => (pushR_a0 k nx tab fs lg_2440 e_2442)) (fun x_2443 => (Prod.rec (motive := fun _ => Bool) (fun lo_2444 x_2445 => (Prod.rec (motive := fun _ => Bool) (fun hi_2446 f_2447 => (pushR_a3 k nx lo_2444 hi_2446 tab fs f_2447 lg_2440)) x_2445)) x_2443)) x_2441)) x_2439)) r)
theorem pushR_def (nx : Nat) (tab : Tb) (fs : List Ln) (r : RV) (k : Nat → Tb → List Ln → AV → Bool) : pushR nx tab fs r k = (match r with
  | .inl v => k nx tab fs v
  | .inr (lg, .inl e) => k nx tab fs (.inl (lg, e))
  | .inr (lg, .inr (lo, hi, f)) => bif eqI lo hi then k nx tab fs (.inl (lg, kL lo)) else k (Nat.succ nx) (tbIns nx lo hi tab) (pushF nx fs f) (.inl (lg, sL nx))) := by
  show (Sum.rec (motive := fun _ => Bool) (fun v_2428 => (k nx tab fs v_2428)) (fun x_2429 => (Prod.rec (motive := fun _ => Bool) (fun lg_2430 x_2431 => (Sum.rec (motive := fun _ => Bool) (fun e_2432 => (k nx tab fs (.inl (lg_2430, e_2432)))) (fun x_2433 => (Prod.rec (motive := fun _ => Bool) (fun lo_2434 x_2435 => (Prod.rec (motive := fun _ => Bool) (fun hi_2436 f_2437 => (Bool.rec (motive := fun _ => Bool) (k (Nat.succ nx) (tbIns nx lo_2434 hi_2436 tab) (pushF nx fs f_2437) (.inl (lg_2430, (sL nx)))) (k nx tab fs (.inl (lg_2430, (kL lo_2434)))) (eqI lo_2434 hi_2436))) x_2435)) x_2433)) x_2431)) x_2429)) r) = _
  try simp only [iAddQ_eq, iMulQ_eq, iNegQ_eq, lenQ_eq, nthQ_eq, setQ_eq, appQ_eq, mapQ_eq, allQ_eq, anyQ_eq, dropQ_eq, takeQ_eq, revQ_eq, getDQ_eq, optLQ_eq, brecC]
  all_goals
    cases r with
    | inl y_2448 =>
      try dsimp only [cond_false, cond_true]
      all_goals rfl
    | inr y_2449 =>
      try dsimp only [cond_false, cond_true]
      all_goals
        cases y_2449 with
        | mk y_2450 y_2451 =>
          try dsimp only [cond_false, cond_true]
          all_goals
            cases y_2451 with
            | inl y_2452 =>
              try dsimp only [cond_false, cond_true]
              all_goals rfl
            | inr y_2453 =>
              try dsimp only [cond_false, cond_true]
              all_goals
                cases y_2453 with
                | mk y_2454 y_2455 =>
                  try dsimp only [cond_false, cond_true]
                  all_goals
                    cases y_2455 with
                    | mk y_2456 y_2457 =>
                      try dsimp only [cond_false, cond_true]
                      all_goals
                        cases hq_6 : (eqI y_2454 y_2456) with
                        | false =>
                          try dsimp only [cond_false, cond_true]
                          all_goals rfl
                        | true =>
                          try dsimp only [cond_false, cond_true]
                          all_goals rfl
noncomputable def onO (r : Option (Tb × List Ln)) (f : Tb → List Ln → Bool) : Bool := match r with
  | some (t, g) => f t g
  | none => true
noncomputable def onJ (r : Option Nat) (f : Nat → Bool) : Bool := match r with
  | some t => f t
  | none => false
noncomputable def br (k : Nat → Tb → List Ln → Bool) (c : Jvm.ClassFile.Cond) (tab : Tb) (fs : List Ln) (x y : Ln) (t e : Nat) : Bool := bif onO (asm c tab fs x y) (k t) then onO (asm (negC c) tab fs x y) (k e) else false
/-- of longs: unlike is below or above -/
noncomputable def brC (k : Nat → Tb → List Ln → Bool) (c : Jvm.ClassFile.Cond) (tab : Tb) (fs : List Ln) (x y : Ln) (t e : Nat) : Bool := match c with
  | .eq => bif onO (asm .eq tab fs x y) (k t) then (bif onO (asm .lt tab fs x y) (k e) then onO (asm .gt tab fs x y) (k e) else false) else false
  | .ne => bif onO (asm .eq tab fs x y) (k e) then (bif onO (asm .lt tab fs x y) (k t) then onO (asm .gt tab fs x y) (k t) else false) else false
  | c => br k c tab fs x y t e
/-- of two that are no constants: unlike is below or above -/
noncomputable def twoS (x y : Ln) : Bool := match x.2, y.2 with
  | _ :: _, _ :: _ => true
  | _, _ => false
noncomputable def br3 (k : Nat → Tb → List Ln → Bool) (c : Jvm.ClassFile.Cond) (tab : Tb) (fs : List Ln) (x y : Ln) (t e : Nat) : Bool := bif twoS x y then brC k c tab fs x y t e else br k c tab fs x y t e
noncomputable def tsAll (k : Nat → Tb → List Ln → Bool) (pc : Nat) (tab : Tb) (fs : List Ln) (x : Ln) : Int → List Int → Bool
  | _, [] => true
  | v, off :: r => bif onO (asm .eq tab fs x (kL v)) (fun tab' fs' => onJ (jmpA pc off) (fun t => k t tab' fs')) then tsAll k pc tab fs x (Int.add v 1) r else false
noncomputable def lsAll (k : Nat → Tb → List Ln → Bool) (pc : Nat) (tab : Tb) (fs : List Ln) (x : Ln) : List (Int × Int) → Bool
  | [] => true
  | (v, off) :: r => bif onO (asm .eq tab fs x (kL v)) (fun tab' fs' => onJ (jmpA pc off) (fun t => k t tab' fs')) then lsAll k pc tab fs x r else false
noncomputable def lsNe (x : Ln) : List (Int × Int) → Tb → List Ln → Option (Tb × List Ln)
  | [], tab, fs => some (tab, fs)
  | (v, _) :: r, tab, fs => match asm .ne tab fs x (kL v) with
    | some (tab', fs') => lsNe x r tab' fs'
    | none => none
noncomputable def g2 (k : Nat → List AV → Tb → List Ln → Bool) (i : Instr) (pc : Nat) (tab : Tb) (fs : List Ln) (st : List AV) : Bool := match i with
  | .goto off => onJ (jmpA pc off) (fun t => k t st tab fs)
  | .ifCond c off => onJ (jmpA pc off) (fun t => match st with
      | .inl (false, x) :: r => br (fun t => k t r) c tab fs x (kL 0) t (Nat.add pc 3)
      | .inr (.inr (p, q)) :: r => brC (fun t => k t r) c tab fs p q t (Nat.add pc 3)
      | _ => false)
  | .if_icmp c off => onJ (jmpA pc off) (fun t => match st with
      | .inl (false, y) :: .inl (false, x) :: r => br3 (fun t => k t r) c tab fs x y t (Nat.add pc 3)
      | _ => false)
  | .ifnull off => match st with
    | .inr (.inl (some _)) :: r => k (Nat.add pc 3) r tab fs
    | .inr (.inl none) :: r => onJ (jmpA pc off) (fun t => k t r tab fs)
    | _ => false
  | .ifnonnull off => match st with
    | .inr (.inl (some _)) :: r => onJ (jmpA pc off) (fun t => k t r tab fs)
    | .inr (.inl none) :: r => k (Nat.add pc 3) r tab fs
    | _ => false
  | .tableswitch d lo hi offs => match st with
    | .inl (false, x) :: r => onJ (jmpA pc d) (fun t => bif leI (Int.add (Int.add hi (Int.neg lo)) 1) (.ofNat offs.toList.length) then (bif onO (asm .lt tab fs x (kL lo)) (k t r) then (bif onO (asm .gt tab fs x (kL hi)) (k t r) then tsAll (fun t => k t r) pc tab fs x lo offs.toList else false) else false) else false)
    | _ => false
  | .lookupswitch d ps => match st with
    | .inl (false, x) :: r => onJ (jmpA pc d) (fun t => bif (ps.toList.zip (ps.toList.drop 1)).all (fun (a, next) => a.1 < next.1) then (bif onO (lsNe x ps.toList tab fs) (k t r) then lsAll (fun t => k t r) pc tab fs x ps.toList else false) else false)
    | _ => false
  | _ => false
noncomputable def loopJ_a0 :=
  fun (ih : Nat → Bool) (e_1 : Nat) (f : Nat → Bool) => ((Bool.rec (motive := fun _ => Bool) false (ih (Nat.succ e_1)) (f e_1)) : Bool)
noncomputable def loopJ (f : Nat → Bool) : Nat → Nat → Bool :=
  fun e_0 e_1 => Nat.rec (motive := fun _ => Nat → Bool) (fun e_1 => true) (fun t_0 ih e_1 => (loopJ_a0 ih e_1 f)) e_0 e_1
theorem loopJ_def (f : Nat → Bool) (e_0 : Nat) (e_1 : Nat) : loopJ f e_0 e_1 = (match e_0, e_1 with
  | 0, _ => true
  | c + 1, j => bif f j then loopJ f c (Nat.succ j) else false) := by
  cases e_0 with
  | zero =>
    show true = _
    try simp only [iAddQ_eq, iMulQ_eq, iNegQ_eq, lenQ_eq, nthQ_eq, setQ_eq, appQ_eq, mapQ_eq, allQ_eq, anyQ_eq, dropQ_eq, takeQ_eq, revQ_eq, getDQ_eq, optLQ_eq, brecC]
    all_goals rfl
  | succ t_0 =>
    show (Bool.rec (motive := fun _ => Bool) false (loopJ f t_0 (Nat.succ e_1)) (f e_1)) = _
    try simp only [iAddQ_eq, iMulQ_eq, iNegQ_eq, lenQ_eq, nthQ_eq, setQ_eq, appQ_eq, mapQ_eq, allQ_eq, anyQ_eq, dropQ_eq, takeQ_eq, revQ_eq, getDQ_eq, optLQ_eq, brecC]
    all_goals
      cases hq_1 : (f e_1) with
      | false =>
        try dsimp only [cond_false, cond_true]
        all_goals rfl
      | true =>
        try dsimp only [cond_false, cond_true]
        all_goals rfl
noncomputable def rfA (o : Option Nat) : AV := .inr (.inl o)
noncomputable def aaL (k : List AV → Tb → List Ln → Bool) (tab : Tb) (fs : List Ln) (A : AH) (st : List AV) : Bool := match st with
  | .inl (false, e) :: .inr (.inl (some q)) :: r => (match A[q]? with
    | some (.inr (kk, .inr (.inr l))) => bif Nat.ble 4 kk then (bif Nat.blt kk 8 then (match idxR tab fs e with
      | some (x, u) => bif Nat.blt u l.length then loopJ (fun j => onO (asm .eq tab fs e (kL (.ofNat j))) (fun tab' fs' => k (rfA (l.getD j none) :: r) tab' fs')) (Nat.succ (Nat.sub u x)) x else false
      | none => false) else false) else false
    | _ => false)
  | _ => false
-- a call
noncomputable def sbV_a0 :=
  fun (θ : Th) (p_2472 : Ln) (q_2473 : Ln) => ((.inr (.inr ((sbL θ p_2472), (sbL θ q_2473)))) : AV)
noncomputable def sbV (θ : Th) (a : AV) : AV :=
  (Sum.rec (motive := fun _ => AV) (fun x_2466 => (Prod.rec (motive := fun _ => AV) (fun b_2468 e_2469 => (.inl (b_2468, (sbL θ e_2469)))) x_2466)) (fun x_2467 => (Sum.rec (motive := fun _ => AV) (fun x_2470 => a) (fun x_2471 => (Prod.rec (motive := fun _ => AV) (fun p_2472 q_2473 => (sbV_a0 θ p_2472 q_2473)) x_2471)) x_2467)) a)
theorem sbV_def (θ : Th) (a : AV) : sbV θ a = (match a with
  | .inl (b, e) => .inl (b, sbL θ e)
  | .inr (.inr (p, q)) => .inr (.inr (sbL θ p, sbL θ q))
  | a => a) := by
  show (Sum.rec (motive := fun _ => AV) (fun x_2458 => (Prod.rec (motive := fun _ => AV) (fun b_2460 e_2461 => (.inl (b_2460, (sbL θ e_2461)))) x_2458)) (fun x_2459 => (Sum.rec (motive := fun _ => AV) (fun x_2462 => a) (fun x_2463 => (Prod.rec (motive := fun _ => AV) (fun p_2464 q_2465 => (.inr (.inr ((sbL θ p_2464), (sbL θ q_2465))))) x_2463)) x_2459)) a) = _
  all_goals
    cases a with
    | inl y_2474 =>
      try dsimp only [cond_false, cond_true]
      all_goals
        cases y_2474 with
        | mk y_2475 y_2476 =>
          try dsimp only [cond_false, cond_true]
          all_goals rfl
    | inr y_2477 =>
      try dsimp only [cond_false, cond_true]
      all_goals
        cases y_2477 with
        | inl y_2478 =>
          try dsimp only [cond_false, cond_true]
          all_goals rfl
        | inr y_2479 =>
          try dsimp only [cond_false, cond_true]
          all_goals
            cases y_2479 with
            | mk y_2480 y_2481 =>
              try dsimp only [cond_false, cond_true]
              all_goals rfl
noncomputable def sbS (θ : Th) (s : Sg) : Sg :=
  (Sum.rec (motive := fun _ => Sg) (fun e_2484 => (.inl (sbL θ e_2484))) (fun x_2485 => s) s)
theorem sbS_def (θ : Th) (s : Sg) : sbS θ s = (match s with
  | .inl e => .inl (sbL θ e)
  | s => s) := by
  show (Sum.rec (motive := fun _ => Sg) (fun e_2482 => (.inl (sbL θ e_2482))) (fun x_2483 => s) s) = _
  all_goals
    cases s with
    | inl y_2486 =>
      try dsimp only [cond_false, cond_true]
      all_goals rfl
    | inr y_2487 =>
      try dsimp only [cond_false, cond_true]
      all_goals rfl
noncomputable def sbC_a0 :=
  fun (ci_2498 : Nat) (θ : Th) (as_2499 : List AV) => ((.inl (ci_2498, (mapQ (sbV θ) as_2499))) : AC)
noncomputable def sbC_a1 :=
  fun (k_2500 : Nat) (θ : Th) (s_2502 : List Sg) => ((.inr (k_2500, (.inl (mapQ (sbS θ) s_2502)))) : AC)
noncomputable def sbC (θ : Th) (c : AC) : AC :=
  (Sum.rec (motive := fun _ => AC) (fun x_2496 => (Prod.rec (motive := fun _ => AC) (fun ci_2498 as_2499 => (sbC_a0 ci_2498 θ as_2499)) x_2496)) (fun x_2497 => (Prod.rec (motive := fun _ => AC) (fun k_2500 x_2501 => (Sum.rec (motive := fun _ => AC) (fun s_2502 => (sbC_a1 k_2500 θ s_2502)) (fun x_2503 => c) x_2501)) x_2497)) c)
theorem sbC_def (θ : Th) (c : AC) : sbC θ c = (match c with
  | .inl (ci, as) => .inl (ci, as.map (sbV θ))
  | .inr (k, .inl s) => .inr (k, .inl (s.map (sbS θ)))
  | c => c) := by
  show (Sum.rec (motive := fun _ => AC) (fun x_2488 => (Prod.rec (motive := fun _ => AC) (fun ci_2490 as_2491 => (.inl (ci_2490, (mapQ (sbV θ) as_2491)))) x_2488)) (fun x_2489 => (Prod.rec (motive := fun _ => AC) (fun k_2492 x_2493 => (Sum.rec (motive := fun _ => AC) (fun s_2494 => (.inr (k_2492, (.inl (mapQ (sbS θ) s_2494))))) (fun x_2495 => c) x_2493)) x_2489)) c) = _
  try simp only [iAddQ_eq, iMulQ_eq, iNegQ_eq, lenQ_eq, nthQ_eq, setQ_eq, appQ_eq, mapQ_eq, allQ_eq, anyQ_eq, dropQ_eq, takeQ_eq, revQ_eq, getDQ_eq, optLQ_eq, brecC]
  all_goals
    cases c with
    | inl y_2504 =>
      try dsimp only [cond_false, cond_true]
      all_goals
        cases y_2504 with
        | mk y_2505 y_2506 =>
          try dsimp only [cond_false, cond_true]
          all_goals rfl
    | inr y_2507 =>
      try dsimp only [cond_false, cond_true]
      all_goals
        cases y_2507 with
        | mk y_2508 y_2509 =>
          try dsimp only [cond_false, cond_true]
          all_goals
            cases y_2509 with
            | inl y_2510 =>
              try dsimp only [cond_false, cond_true]
              all_goals rfl
            | inr y_2511 =>
              try dsimp only [cond_false, cond_true]
              all_goals rfl
/-- the outcome's own symbols become new ones -/
noncomputable def thN (θ : Th) (nx pnx : Nat) (s : Nat) : Ln :=
  (Bool.rec (motive := fun _ => Ln) (sL (Nat.add nx (Nat.sub s pnx))) (θ s) (Nat.blt s pnx))
theorem thN_def (θ : Th) (nx pnx : Nat) (s : Nat) : thN θ nx pnx s = bif Nat.blt s pnx then θ s else sL (Nat.add nx (Nat.sub s pnx)) := by
  show (Bool.rec (motive := fun _ => Ln) (sL (Nat.add nx (Nat.sub s pnx))) (θ s) (Nat.blt s pnx)) = _
  try simp only [iAddQ_eq, iMulQ_eq, iNegQ_eq, lenQ_eq, nthQ_eq, setQ_eq, appQ_eq, mapQ_eq, allQ_eq, anyQ_eq, dropQ_eq, takeQ_eq, revQ_eq, getDQ_eq, optLQ_eq, brecC]
  all_goals
    cases hq_1 : (Nat.blt s pnx) with
    | false =>
      try dsimp only [cond_false, cond_true]
      all_goals rfl
    | true =>
      try dsimp only [cond_false, cond_true]
      all_goals rfl
/-- their bounds, below all that was known -/
noncomputable def tbN (tab : Tb) (nx pnx : Nat) (f : Nat → Option (Int × Int)) : Tb :=
  ([], (fun t => (Bool.rec (motive := fun _ => _) (tbLk t tab) (f (Nat.add pnx (Nat.sub t nx))) (Nat.ble nx t))))
theorem tbN_def (tab : Tb) (nx pnx : Nat) (f : Nat → Option (Int × Int)) : tbN tab nx pnx f = ([], fun t => bif Nat.ble nx t then f (Nat.add pnx (Nat.sub t nx)) else tbLk t tab) := by
  show ([], (fun t => (Bool.rec (motive := fun _ => _) (tbLk t tab) (f (Nat.add pnx (Nat.sub t nx))) (Nat.ble nx t)))) = _
  try simp only [iAddQ_eq, iMulQ_eq, iNegQ_eq, lenQ_eq, nthQ_eq, setQ_eq, appQ_eq, mapQ_eq, allQ_eq, anyQ_eq, dropQ_eq, takeQ_eq, revQ_eq, getDQ_eq, optLQ_eq, brecC]
  all_goals rfl
noncomputable def tbO (tab : Tb) (nx pnx onx : Nat) (l : TbL) : Tb :=
  (Bool.rec (motive := fun _ => Tb) (Prod.rec (motive := fun _ => Tb) (fun x_2516 x_2517 => (Prod.rec (motive := fun _ => Tb) (fun f_2518 x_2519 => (tbN tab nx pnx f_2518)) x_2517)) (balT (nat_lit 9) l)) tab (Nat.beq onx pnx))
theorem tbO_def (tab : Tb) (nx pnx onx : Nat) (l : TbL) : tbO tab nx pnx onx l = (bif Nat.beq onx pnx then tab else match balT 9 l with
  | (_, f, _) => tbN tab nx pnx f) := by
  show (Bool.rec (motive := fun _ => Tb) (Prod.rec (motive := fun _ => Tb) (fun x_2512 x_2513 => (Prod.rec (motive := fun _ => Tb) (fun f_2514 x_2515 => (tbN tab nx pnx f_2514)) x_2513)) (balT (nat_lit 9) l)) tab (Nat.beq onx pnx)) = _
  try simp only [iAddQ_eq, iMulQ_eq, iNegQ_eq, lenQ_eq, nthQ_eq, setQ_eq, appQ_eq, mapQ_eq, allQ_eq, anyQ_eq, dropQ_eq, takeQ_eq, revQ_eq, getDQ_eq, optLQ_eq, brecC]
  all_goals
    cases hq_1 : (Nat.beq onx pnx) with
    | false =>
      try dsimp only [cond_false, cond_true]
      all_goals
        cases hq_2 : (balT 9 l) with
        | mk y_2520 y_2521 =>
          try dsimp only [cond_false, cond_true]
          all_goals
            cases y_2521 with
            | mk y_2522 y_2523 =>
              try dsimp only [cond_false, cond_true]
              all_goals rfl
    | true =>
      try dsimp only [cond_false, cond_true]
      all_goals rfl
noncomputable def isFr (e : Ln) (tab : Tb) : Bool :=
  (List.rec (motive := fun _ => Bool) false (fun x_2531 x_2532 _ => (Prod.rec (motive := fun _ => Bool) (fun t_2533 k_2534 => (List.rec (motive := fun _ => Bool) (Bool.rec (motive := fun _ => Bool) false (Bool.rec (motive := fun _ => Bool) false (Option.rec (motive := fun _ => Bool) true (fun x_2537 => false) (tbLk t_2533 tab)) (eqI k_2534 (.ofNat (nat_lit 1)))) (isZ e.1)) (fun x_2535 x_2536 _ => false) x_2532)) x_2531)) e.2)
theorem isFr_def (e : Ln) (tab : Tb) : isFr e tab = (match e.2 with
  | [(t, k)] => bif isZ e.1 then (bif eqI k 1 then (match tbLk t tab with
    | none => true
    | some _ => false) else false) else false
  | _ => false) := by
  show (List.rec (motive := fun _ => Bool) false (fun x_2524 x_2525 _ => (Prod.rec (motive := fun _ => Bool) (fun t_2526 k_2527 => (List.rec (motive := fun _ => Bool) (Bool.rec (motive := fun _ => Bool) false (Bool.rec (motive := fun _ => Bool) false (Option.rec (motive := fun _ => Bool) true (fun x_2530 => false) (tbLk t_2526 tab)) (eqI k_2527 (.ofNat (nat_lit 1)))) (isZ e.1)) (fun x_2528 x_2529 _ => false) x_2525)) x_2524)) e.2) = _
  try simp only [iAddQ_eq, iMulQ_eq, iNegQ_eq, lenQ_eq, nthQ_eq, setQ_eq, appQ_eq, mapQ_eq, allQ_eq, anyQ_eq, dropQ_eq, takeQ_eq, revQ_eq, getDQ_eq, optLQ_eq, brecC]
  all_goals
    cases hq_1 : e.2 with
    | nil =>
      try dsimp only [cond_false, cond_true]
      all_goals rfl
    | cons y_2538 y_2539 =>
      try dsimp only [cond_false, cond_true]
      all_goals
        cases y_2538 with
        | mk y_2540 y_2541 =>
          try dsimp only [cond_false, cond_true]
          all_goals
            cases y_2539 with
            | nil =>
              try dsimp only [cond_false, cond_true]
              all_goals
                cases hq_4 : (isZ e.1) with
                | false =>
                  try dsimp only [cond_false, cond_true]
                  all_goals rfl
                | true =>
                  try dsimp only [cond_false, cond_true]
                  all_goals
                    cases hq_5 : (eqI y_2541 1) with
                    | false =>
                      try dsimp only [cond_false, cond_true]
                      all_goals rfl
                    | true =>
                      try dsimp only [cond_false, cond_true]
                      all_goals
                        cases hq_6 : (tbLk y_2540 tab) with
                        | none =>
                          try dsimp only [cond_false, cond_true]
                          all_goals rfl
                        | some y_2542 =>
                          try dsimp only [cond_false, cond_true]
                          all_goals rfl
            | cons y_2543 y_2544 =>
              try dsimp only [cond_false, cond_true]
              all_goals rfl
noncomputable def hdS (e : Ln) : Nat :=
  (List.rec (motive := fun _ => Nat) (nat_lit 0) (fun x_2549 x_2550 _ => (Prod.rec (motive := fun _ => Nat) (fun t_2551 x_2552 => t_2551) x_2549)) e.2)
theorem hdS_def (e : Ln) : hdS e = (match e.2 with
  | (t, _) :: _ => t
  | [] => 0) := by
  show (List.rec (motive := fun _ => Nat) (nat_lit 0) (fun x_2545 x_2546 _ => (Prod.rec (motive := fun _ => Nat) (fun t_2547 x_2548 => t_2547) x_2545)) e.2) = _
  all_goals
    cases hq_1 : e.2 with
    | nil =>
      try dsimp only [cond_false, cond_true]
      all_goals rfl
    | cons y_2553 y_2554 =>
      try dsimp only [cond_false, cond_true]
      all_goals
        cases y_2553 with
        | mk y_2555 y_2556 =>
          try dsimp only [cond_false, cond_true]
          all_goals rfl
noncomputable def addB_a0 :=
  fun (tab_2561 : Tb) (fs_2562 : List Ln) (lo : Int) (e : Ln) => ((addLe tab_2561 fs_2562 (subL (kL lo) e)) : Option (Tb × List Ln))
noncomputable def addB_a1 :=
  fun (e : Ln) (lo : Int) (hi : Int) (tab : Tb) (fs : List Ln) => ((some ((tbIns (hdS e) lo hi tab), fs)) : Option (Tb × List Ln))
noncomputable def addB (e : Ln) (lo hi : Int) (tab : Tb) (fs : List Ln) : Option (Tb × List Ln) :=
  (Bool.rec (motive := fun _ => Option (Tb × List Ln)) (Option.rec (motive := fun _ => Option (Tb × List Ln)) none (fun x_2560 => (Prod.rec (motive := fun _ => Option (Tb × List Ln)) (fun tab_2561 fs_2562 => (addB_a0 tab_2561 fs_2562 lo e)) x_2560)) (addLe tab fs (pluL e (iNegQ hi)))) (addB_a1 e lo hi tab fs) (isFr e tab))
theorem addB_def (e : Ln) (lo hi : Int) (tab : Tb) (fs : List Ln) : addB e lo hi tab fs = (bif isFr e tab then some (tbIns (hdS e) lo hi tab, fs) else match addLe tab fs (pluL e (Int.neg hi)) with
  | some (tab', fs') => addLe tab' fs' (subL (kL lo) e)
  | none => none) := by
  show (Bool.rec (motive := fun _ => Option (Tb × List Ln)) (Option.rec (motive := fun _ => Option (Tb × List Ln)) none (fun x_2557 => (Prod.rec (motive := fun _ => Option (Tb × List Ln)) (fun tab_2558 fs_2559 => (addLe tab_2558 fs_2559 (subL (kL lo) e))) x_2557)) (addLe tab fs (pluL e (iNegQ hi)))) (some ((tbIns (hdS e) lo hi tab), fs)) (isFr e tab)) = _
  try simp only [iAddQ_eq, iMulQ_eq, iNegQ_eq, lenQ_eq, nthQ_eq, setQ_eq, appQ_eq, mapQ_eq, allQ_eq, anyQ_eq, dropQ_eq, takeQ_eq, revQ_eq, getDQ_eq, optLQ_eq, brecC]
  all_goals
    cases hq_1 : (isFr e tab) with
    | false =>
      try dsimp only [cond_false, cond_true]
      all_goals
        cases hq_2 : (addLe tab fs ((pluL e ((Int.neg hi))))) with
        | none =>
          try dsimp only [cond_false, cond_true]
          all_goals rfl
        | some y_2563 =>
          try dsimp only [cond_false, cond_true]
          all_goals
            cases y_2563 with
            | mk y_2564 y_2565 =>
              try dsimp only [cond_false, cond_true]
              all_goals rfl
    | true =>
      try dsimp only [cond_false, cond_true]
      all_goals rfl
noncomputable def addT' (θ : Th) (pnx : Nat) : TbL → Tb → List Ln → Option (Tb × List Ln) :=
  fun e_0 e_1 e_2 => List.rec (motive := fun _ => Tb → List Ln → Option (Tb × List Ln)) (fun e_1 e_2 => (some (e_1, e_2))) (fun h_0 t_0 ih e_1 e_2 => (Prod.rec (motive := fun _ => Option (Tb × List Ln)) (fun s_2566 x_2567 => (Prod.rec (motive := fun _ => Option (Tb × List Ln)) (fun lo_2568 hi_2569 => (Bool.rec (motive := fun _ => Option (Tb × List Ln)) (some (e_1, e_2)) (Option.rec (motive := fun _ => Option (Tb × List Ln)) none (fun x_2570 => (Prod.rec (motive := fun _ => Option (Tb × List Ln)) (fun tab_2571 fs_2572 => (ih tab_2571 fs_2572)) x_2570)) (addB (θ s_2566) lo_2568 hi_2569 e_1 e_2)) (Nat.blt s_2566 pnx))) x_2567)) h_0)) e_0 e_1 e_2
theorem addT'_def (θ : Th) (pnx : Nat) (e_0 : TbL) (e_1 : Tb) (e_2 : List Ln) : addT' θ pnx e_0 e_1 e_2 = (match e_0, e_1, e_2 with
  | [], tab, fs => some (tab, fs)
  | (s, lo, hi) :: r, tab, fs => bif Nat.blt s pnx then (match addB (θ s) lo hi tab fs with
    | some (tab', fs') => addT' θ pnx r tab' fs'
    | none => none) else some (tab, fs)) := by
  cases e_0 with
  | nil =>
    show (some (e_1, e_2)) = _
    try simp only [iAddQ_eq, iMulQ_eq, iNegQ_eq, lenQ_eq, nthQ_eq, setQ_eq, appQ_eq, mapQ_eq, allQ_eq, anyQ_eq, dropQ_eq, takeQ_eq, revQ_eq, getDQ_eq, optLQ_eq, brecC]
    all_goals rfl
  | cons h_0 t_0 =>
    show (Prod.rec (motive := fun _ => Option (Tb × List Ln)) (fun s_2573 x_2574 => (Prod.rec (motive := fun _ => Option (Tb × List Ln)) (fun lo_2575 hi_2576 => (Bool.rec (motive := fun _ => Option (Tb × List Ln)) (some (e_1, e_2)) (Option.rec (motive := fun _ => Option (Tb × List Ln)) none (fun x_2577 => (Prod.rec (motive := fun _ => Option (Tb × List Ln)) (fun tab_2578 fs_2579 => (addT' θ pnx t_0 tab_2578 fs_2579)) x_2577)) (addB (θ s_2573) lo_2575 hi_2576 e_1 e_2)) (Nat.blt s_2573 pnx))) x_2574)) h_0) = _
    try simp only [iAddQ_eq, iMulQ_eq, iNegQ_eq, lenQ_eq, nthQ_eq, setQ_eq, appQ_eq, mapQ_eq, allQ_eq, anyQ_eq, dropQ_eq, takeQ_eq, revQ_eq, getDQ_eq, optLQ_eq, brecC]
    all_goals
      cases h_0 with
      | mk y_2580 y_2581 =>
        try dsimp only [cond_false, cond_true]
        all_goals
          cases y_2581 with
          | mk y_2582 y_2583 =>
            try dsimp only [cond_false, cond_true]
            all_goals
              cases hq_3 : (Nat.blt y_2580 pnx) with
              | false =>
                try dsimp only [cond_false, cond_true]
                all_goals rfl
              | true =>
                try dsimp only [cond_false, cond_true]
                all_goals
                  cases hq_4 : (addB ((θ y_2580)) y_2582 y_2583 e_1 e_2) with
                  | none =>
                    try dsimp only [cond_false, cond_true]
                    all_goals rfl
                  | some y_2584 =>
                    try dsimp only [cond_false, cond_true]
                    all_goals
                      cases y_2584 with
                      | mk y_2585 y_2586 =>
                        try dsimp only [cond_false, cond_true]
                        all_goals rfl
noncomputable def addF' (θ : Th) : List Ln → Tb → List Ln → Option (Tb × List Ln) :=
  fun e_0 e_1 e_2 => List.rec (motive := fun _ => Tb → List Ln → Option (Tb × List Ln)) (fun e_1 e_2 => (some (e_1, e_2))) (fun h_0 t_0 ih e_1 e_2 => (Option.rec (motive := fun _ => Option (Tb × List Ln)) none (fun x_2587 => (Prod.rec (motive := fun _ => Option (Tb × List Ln)) (fun tab_2588 fs_2589 => (ih tab_2588 fs_2589)) x_2587)) (addLe e_1 e_2 (sbL θ h_0)))) e_0 e_1 e_2
theorem addF'_def (θ : Th) (e_0 : List Ln) (e_1 : Tb) (e_2 : List Ln) : addF' θ e_0 e_1 e_2 = (match e_0, e_1, e_2 with
  | [], tab, fs => some (tab, fs)
  | f :: r, tab, fs => match addLe tab fs (sbL θ f) with
    | some (tab', fs') => addF' θ r tab' fs'
    | none => none) := by
  cases e_0 with
  | nil =>
    show (some (e_1, e_2)) = _
    try simp only [iAddQ_eq, iMulQ_eq, iNegQ_eq, lenQ_eq, nthQ_eq, setQ_eq, appQ_eq, mapQ_eq, allQ_eq, anyQ_eq, dropQ_eq, takeQ_eq, revQ_eq, getDQ_eq, optLQ_eq, brecC]
    all_goals rfl
  | cons h_0 t_0 =>
    show (Option.rec (motive := fun _ => Option (Tb × List Ln)) none (fun x_2590 => (Prod.rec (motive := fun _ => Option (Tb × List Ln)) (fun tab_2591 fs_2592 => (addF' θ t_0 tab_2591 fs_2592)) x_2590)) (addLe e_1 e_2 (sbL θ h_0))) = _
    try simp only [iAddQ_eq, iMulQ_eq, iNegQ_eq, lenQ_eq, nthQ_eq, setQ_eq, appQ_eq, mapQ_eq, allQ_eq, anyQ_eq, dropQ_eq, takeQ_eq, revQ_eq, getDQ_eq, optLQ_eq, brecC]
    all_goals
      cases hq_1 : (addLe e_1 e_2 ((sbL θ h_0))) with
      | none =>
        try dsimp only [cond_false, cond_true]
        all_goals rfl
      | some y_2593 =>
        try dsimp only [cond_false, cond_true]
        all_goals
          cases y_2593 with
          | mk y_2594 y_2595 =>
            try dsimp only [cond_false, cond_true]
            all_goals rfl
/-- a row that the contract doesn't look into: one number, of its own -/
noncomputable def convC_a0 :=
  fun (kh_2616 : Nat) (y : Nat) => ((.inr ((Nat.add kh_2616 (nat_lit 100)), (.inl [(.inl (sL y))]))) : AC)
noncomputable def convC_a1 :=
  fun (kh_2616 : Nat) (s_2618 : List Sg) (y : Nat) => ((Bool.rec (motive := fun _ => AC) (.inr (kh_2616, (.inl s_2618))) (convC_a0 kh_2616 y) (Nat.blt kh_2616 (nat_lit 100))) : AC)
noncomputable def convC_a2 :=
  fun (kh_2616 : Nat) (s_2618 : List Sg) (y : Nat) (kp_2610 : Nat) => ((Bool.rec (motive := fun _ => AC) (.inr (kh_2616, (.inl s_2618))) (convC_a1 kh_2616 s_2618 y) (Nat.ble (nat_lit 100) kp_2610)) : AC)
noncomputable def convC (y : Nat) (p a : AC) : AC :=
  (Sum.rec (motive := fun _ => AC) (fun x_2608 => a) (fun x_2609 => (Prod.rec (motive := fun _ => AC) (fun kp_2610 x_2611 => (Sum.rec (motive := fun _ => AC) (fun x_2612 => (Sum.rec (motive := fun _ => AC) (fun x_2614 => a) (fun x_2615 => (Prod.rec (motive := fun _ => AC) (fun kh_2616 x_2617 => (Sum.rec (motive := fun _ => AC) (fun s_2618 => (convC_a2 kh_2616 s_2618 y kp_2610)) (fun x_2619 => a) x_2617)) x_2615)) a)) (fun x_2613 => a) x_2611)) x_2609)) p)
theorem convC_def (y : Nat) (p a : AC) : convC y p a = (match p, a with
  | .inr (kp, .inl _), .inr (kh, .inl s) => bif Nat.ble 100 kp then (bif Nat.blt kh 100 then .inr (Nat.add kh 100, .inl [.inl (sL y)]) else .inr (kh, .inl s)) else .inr (kh, .inl s)
  | _, a => a) := by
  show (Sum.rec (motive := fun _ => AC) (fun x_2596 => a) (fun x_2597 => (Prod.rec (motive := fun _ => AC) (fun kp_2598 x_2599 => (Sum.rec (motive := fun _ => AC) (fun x_2600 => (Sum.rec (motive := fun _ => AC) (fun x_2602 => a) (fun x_2603 => (Prod.rec (motive := fun _ => AC) (fun kh_2604 x_2605 => (Sum.rec (motive := fun _ => AC) (fun s_2606 => (Bool.rec (motive := fun _ => AC) (.inr (kh_2604, (.inl s_2606))) (Bool.rec (motive := fun _ => AC) (.inr (kh_2604, (.inl s_2606))) (.inr ((Nat.add kh_2604 (nat_lit 100)), (.inl [(.inl (sL y))]))) (Nat.blt kh_2604 (nat_lit 100))) (Nat.ble (nat_lit 100) kp_2598))) (fun x_2607 => a) x_2605)) x_2603)) a)) (fun x_2601 => a) x_2599)) x_2597)) p) = _
  try simp only [iAddQ_eq, iMulQ_eq, iNegQ_eq, lenQ_eq, nthQ_eq, setQ_eq, appQ_eq, mapQ_eq, allQ_eq, anyQ_eq, dropQ_eq, takeQ_eq, revQ_eq, getDQ_eq, optLQ_eq, brecC]
  all_goals
    cases p with
    | inl y_2620 =>
      try dsimp only [cond_false, cond_true]
      all_goals rfl
    | inr y_2621 =>
      try dsimp only [cond_false, cond_true]
      all_goals
        cases y_2621 with
        | mk y_2622 y_2623 =>
          try dsimp only [cond_false, cond_true]
          all_goals
            cases y_2623 with
            | inl y_2624 =>
              try dsimp only [cond_false, cond_true]
              all_goals
                cases a with
                | inl y_2625 =>
                  try dsimp only [cond_false, cond_true]
                  all_goals rfl
                | inr y_2626 =>
                  try dsimp only [cond_false, cond_true]
                  all_goals
                    cases y_2626 with
                    | mk y_2627 y_2628 =>
                      try dsimp only [cond_false, cond_true]
                      all_goals
                        cases y_2628 with
                        | inl y_2629 =>
                          try dsimp only [cond_false, cond_true]
                          all_goals
                            cases hq_7 : (Nat.ble 100 y_2622) with
                            | false =>
                              try dsimp only [cond_false, cond_true]
                              all_goals rfl
                            | true =>
                              try dsimp only [cond_false, cond_true]
                              all_goals
                                cases hq_8 : (Nat.blt y_2627 100) with
                                | false =>
                                  try dsimp only [cond_false, cond_true]
                                  all_goals rfl
                                | true =>
                                  try dsimp only [cond_false, cond_true]
                                  all_goals rfl
                        | inr y_2630 =>
                          try dsimp only [cond_false, cond_true]
                          all_goals rfl
            | inr y_2631 =>
              try dsimp only [cond_false, cond_true]
              all_goals rfl
noncomputable def convH_a0 :=
  fun (nx : Nat) (e_0 : Nat) (h_0 : AC) (a_2632 : AC) (ih : Nat → AH → AH) (as_2633 : List AC) => (((convC (Nat.add nx e_0) h_0 a_2632) :: (ih (Nat.succ e_0) as_2633)) : AH)
noncomputable def convH (nx : Nat) : Nat → AH → AH → AH :=
  fun e_0 e_1 e_2 => List.rec (motive := fun _ => Nat → AH → AH) (fun e_0 e_2 => e_2) (fun h_0 t_0 ih e_0 e_2 => (List.rec (motive := fun _ => AH) e_2 (fun a_2632 as_2633 _ => (convH_a0 nx e_0 h_0 a_2632 ih as_2633)) e_2)) e_1 e_0 e_2
theorem convH_def (nx : Nat) (e_0 : Nat) (e_1 : AH) (e_2 : AH) : convH nx e_0 e_1 e_2 = (match e_0, e_1, e_2 with
  | i, p :: ps, a :: as => convC (Nat.add nx i) p a :: convH nx (Nat.succ i) ps as
  | _, _, A => A) := by
  cases e_1 with
  | nil =>
    show e_2 = _
    try simp only [iAddQ_eq, iMulQ_eq, iNegQ_eq, lenQ_eq, nthQ_eq, setQ_eq, appQ_eq, mapQ_eq, allQ_eq, anyQ_eq, dropQ_eq, takeQ_eq, revQ_eq, getDQ_eq, optLQ_eq, brecC]
    all_goals rfl
  | cons h_0 t_0 =>
    show (List.rec (motive := fun _ => AH) e_2 (fun a_2634 as_2635 _ => ((convC (Nat.add nx e_0) h_0 a_2634) :: (convH nx (Nat.succ e_0) t_0 as_2635))) e_2) = _
    try simp only [iAddQ_eq, iMulQ_eq, iNegQ_eq, lenQ_eq, nthQ_eq, setQ_eq, appQ_eq, mapQ_eq, allQ_eq, anyQ_eq, dropQ_eq, takeQ_eq, revQ_eq, getDQ_eq, optLQ_eq, brecC]
    all_goals
      cases e_2 with
      | nil =>
        try dsimp only [cond_false, cond_true]
        all_goals rfl
      | cons y_2636 y_2637 =>
        try dsimp only [cond_false, cond_true]
        all_goals rfl
/-- a row that came back as it was, or as another was: what was known of that one -/
noncomputable def resC_a0 :=
  fun (y_2679 : Nat) (nx : Nat) (nI : Nat) => ((Bool.rec (motive := fun _ => Bool) false (Nat.blt (Nat.sub y_2679 nx) nI) (Nat.ble nx y_2679)) : Bool)
noncomputable def resC_a1 :=
  fun (y_2679 : Nat) (nx : Nat) (nI : Nat) (w_2680 : Int) => ((Bool.rec (motive := fun _ => Bool) false (resC_a0 y_2679 nx nI) (eqI w_2680 (.ofNat (nat_lit 1)))) : Bool)
noncomputable def resC_a2 :=
  fun (y_2679 : Nat) (nx : Nat) (nI : Nat) (w_2680 : Int) (z_2675 : Int) => ((Bool.rec (motive := fun _ => Bool) false (resC_a1 y_2679 nx nI w_2680) (isZ z_2675)) : Bool)
noncomputable def resC_a3 :=
  fun kh_2688 (k_2667 : Nat) => ((Nat.beq (Nat.add kh_2688 (nat_lit 100)) k_2667) : Bool)
noncomputable def resC_a4 :=
  fun (c : AC) kh_2688 s_2690 (k_2667 : Nat) => ((Bool.rec (motive := fun _ => AC) c (.inr (kh_2688, (.inl s_2690))) (Bool.rec (motive := fun _ => Bool) false (resC_a3 kh_2688 k_2667) (Nat.blt kh_2688 (nat_lit 100)))) : AC)
noncomputable def resC (nx nI : Nat) (H : AH) (c : AC) : AC :=
  (Sum.rec (motive := fun _ => AC) (fun x_2665 => c) (fun x_2666 => (Prod.rec (motive := fun _ => AC) (fun k_2667 x_2668 => (Sum.rec (motive := fun _ => AC) (fun x_2669 => (List.rec (motive := fun _ => AC) c (fun x_2671 x_2672 _ => (Sum.rec (motive := fun _ => AC) (fun x_2673 => (Prod.rec (motive := fun _ => AC) (fun z_2675 x_2676 => (List.rec (motive := fun _ => AC) c (fun x_2677 x_2678 _ => (Prod.rec (motive := fun _ => AC) (fun y_2679 w_2680 => (List.rec (motive := fun _ => AC) (List.rec (motive := fun _ => AC) (Bool.rec (motive := fun _ => AC) c (Option.rec (motive := fun _ => AC) c (fun x_2685 => (Sum.rec (motive := fun _ => AC) (fun x_2686 => c) (fun x_2687 => (Prod.rec (motive := fun _ => AC) (fun kh_2688 x_2689 => (Sum.rec (motive := fun _ => AC) (fun s_2690 => (resC_a4 c kh_2688 s_2690 k_2667)) (fun x_2691 => c) x_2689)) x_2687)) x_2685)) (nthQ H (Nat.sub y_2679 nx))) (Bool.rec (motive := fun _ => Bool) false (resC_a2 y_2679 nx nI w_2680 z_2675) (Nat.ble (nat_lit 100) k_2667))) (fun x_2683 x_2684 _ => c) x_2672) (fun x_2681 x_2682 _ => c) x_2678)) x_2677)) x_2676)) x_2673)) (fun x_2674 => c) x_2671)) x_2669)) (fun x_2670 => c) x_2668)) x_2666)) c)
theorem resC_def (nx nI : Nat) (H : AH) (c : AC) : resC nx nI H c = (match c with
  | .inr (k, .inl [.inl (z, [(y, w)])]) => bif (bif Nat.ble 100 k then (bif isZ z then (bif eqI w 1 then (bif Nat.ble nx y then Nat.blt (Nat.sub y nx) nI else false) else false) else false) else false) then (match H[Nat.sub y nx]? with
    | some (.inr (kh, .inl s)) => bif (bif Nat.blt kh 100 then Nat.beq (Nat.add kh 100) k else false) then .inr (kh, .inl s) else c
    | _ => c) else c
  | c => c) := by
  show (Sum.rec (motive := fun _ => AC) (fun x_2638 => c) (fun x_2639 => (Prod.rec (motive := fun _ => AC) (fun k_2640 x_2641 => (Sum.rec (motive := fun _ => AC) (fun x_2642 => (List.rec (motive := fun _ => AC) c (fun x_2644 x_2645 _ => (Sum.rec (motive := fun _ => AC) (fun x_2646 => (Prod.rec (motive := fun _ => AC) (fun z_2648 x_2649 => (List.rec (motive := fun _ => AC) c (fun x_2650 x_2651 _ => (Prod.rec (motive := fun _ => AC) (fun y_2652 w_2653 => (List.rec (motive := fun _ => AC) (List.rec (motive := fun _ => AC) (Bool.rec (motive := fun _ => AC) c (Option.rec (motive := fun _ => AC) c (fun x_2658 => (Sum.rec (motive := fun _ => AC) (fun x_2659 => c) (fun x_2660 => (Prod.rec (motive := fun _ => AC) (fun kh_2661 x_2662 => (Sum.rec (motive := fun _ => AC) (fun s_2663 => (Bool.rec (motive := fun _ => AC) c (.inr (kh_2661, (.inl s_2663))) (Bool.rec (motive := fun _ => Bool) false (Nat.beq (Nat.add kh_2661 (nat_lit 100)) k_2640) (Nat.blt kh_2661 (nat_lit 100))))) (fun x_2664 => c) x_2662)) x_2660)) x_2658)) (nthQ H (Nat.sub y_2652 nx))) (Bool.rec (motive := fun _ => Bool) false (Bool.rec (motive := fun _ => Bool) false (Bool.rec (motive := fun _ => Bool) false (Bool.rec (motive := fun _ => Bool) false (Nat.blt (Nat.sub y_2652 nx) nI) (Nat.ble nx y_2652)) (eqI w_2653 (.ofNat (nat_lit 1)))) (isZ z_2648)) (Nat.ble (nat_lit 100) k_2640))) (fun x_2656 x_2657 _ => c) x_2645) (fun x_2654 x_2655 _ => c) x_2651)) x_2650)) x_2649)) x_2646)) (fun x_2647 => c) x_2644)) x_2642)) (fun x_2643 => c) x_2641)) x_2639)) c) = _
  try simp only [iAddQ_eq, iMulQ_eq, iNegQ_eq, lenQ_eq, nthQ_eq, setQ_eq, appQ_eq, mapQ_eq, allQ_eq, anyQ_eq, dropQ_eq, takeQ_eq, revQ_eq, getDQ_eq, optLQ_eq, brecC]
  all_goals
    cases c with
    | inl y_2692 =>
      try dsimp only [cond_false, cond_true]
      all_goals rfl
    | inr y_2693 =>
      try dsimp only [cond_false, cond_true]
      all_goals
        cases y_2693 with
        | mk y_2694 y_2695 =>
          try dsimp only [cond_false, cond_true]
          all_goals
            cases y_2695 with
            | inl y_2696 =>
              try dsimp only [cond_false, cond_true]
              all_goals
                cases y_2696 with
                | nil =>
                  try dsimp only [cond_false, cond_true]
                  all_goals rfl
                | cons y_2697 y_2698 =>
                  try dsimp only [cond_false, cond_true]
                  all_goals
                    cases y_2697 with
                    | inl y_2699 =>
                      try dsimp only [cond_false, cond_true]
                      all_goals
                        cases y_2699 with
                        | mk y_2700 y_2701 =>
                          try dsimp only [cond_false, cond_true]
                          all_goals
                            cases y_2701 with
                            | nil =>
                              try dsimp only [cond_false, cond_true]
                              all_goals rfl
                            | cons y_2702 y_2703 =>
                              try dsimp only [cond_false, cond_true]
                              all_goals
                                cases y_2702 with
                                | mk y_2704 y_2705 =>
                                  try dsimp only [cond_false, cond_true]
                                  all_goals
                                    cases y_2703 with
                                    | nil =>
                                      try dsimp only [cond_false, cond_true]
                                      all_goals
                                        cases y_2698 with
                                        | nil =>
                                          try dsimp only [cond_false, cond_true]
                                          all_goals
                                            cases hq_11 : ((bif (Nat.ble 100 y_2694) then ((bif (isZ y_2700) then ((bif (eqI y_2705 1) then ((bif (Nat.ble nx y_2704) then (Nat.blt ((Nat.sub y_2704 nx)) nI) else false)) else false)) else false)) else false)) with
                                            | false =>
                                              try dsimp only [cond_false, cond_true]
                                              all_goals rfl
                                            | true =>
                                              try dsimp only [cond_false, cond_true]
                                              all_goals
                                                cases hq_12 : H[(Nat.sub y_2704 nx)]? with
                                                | none =>
                                                  try dsimp only [cond_false, cond_true]
                                                  all_goals rfl
                                                | some y_2706 =>
                                                  try dsimp only [cond_false, cond_true]
                                                  all_goals
                                                    cases y_2706 with
                                                    | inl y_2707 =>
                                                      try dsimp only [cond_false, cond_true]
                                                      all_goals rfl
                                                    | inr y_2708 =>
                                                      try dsimp only [cond_false, cond_true]
                                                      all_goals
                                                        cases y_2708 with
                                                        | mk y_2709 y_2710 =>
                                                          try dsimp only [cond_false, cond_true]
                                                          all_goals
                                                            cases y_2710 with
                                                            | inl y_2711 =>
                                                              try dsimp only [cond_false, cond_true]
                                                              all_goals
                                                                cases hq_16 : ((bif (Nat.blt y_2709 100) then (Nat.beq ((Nat.add y_2709 100)) y_2694) else false)) with
                                                                | false =>
                                                                  try dsimp only [cond_false, cond_true]
                                                                  all_goals rfl
                                                                | true =>
                                                                  try dsimp only [cond_false, cond_true]
                                                                  all_goals rfl
                                                            | inr y_2712 =>
                                                              try dsimp only [cond_false, cond_true]
                                                              all_goals rfl
                                        | cons y_2713 y_2714 =>
                                          try dsimp only [cond_false, cond_true]
                                          all_goals rfl
                                    | cons y_2715 y_2716 =>
                                      try dsimp only [cond_false, cond_true]
                                      all_goals rfl
                    | inr y_2717 =>
                      try dsimp only [cond_false, cond_true]
                      all_goals rfl
            | inr y_2718 =>
              try dsimp only [cond_false, cond_true]
              all_goals rfl
/-- the same, the rows found by halves -/
noncomputable def resG_a0 :=
  fun (y_2760 : Nat) (nx : Nat) (nI : Nat) => ((Bool.rec (motive := fun _ => Bool) false (Nat.blt (Nat.sub y_2760 nx) nI) (Nat.ble nx y_2760)) : Bool)
noncomputable def resG_a1 :=
  fun (y_2760 : Nat) (nx : Nat) (nI : Nat) (w_2761 : Int) => ((Bool.rec (motive := fun _ => Bool) false (resG_a0 y_2760 nx nI) (eqI w_2761 (.ofNat (nat_lit 1)))) : Bool)
noncomputable def resG_a2 :=
  fun (y_2760 : Nat) (nx : Nat) (nI : Nat) (w_2761 : Int) (z_2756 : Int) => ((Bool.rec (motive := fun _ => Bool) false (resG_a1 y_2760 nx nI w_2761) (isZ z_2756)) : Bool)
noncomputable def resG_a3 :=
  fun kh_2769 (k_2748 : Nat) => ((Nat.beq (Nat.add kh_2769 (nat_lit 100)) k_2748) : Bool)
noncomputable def resG_a4 :=
  fun (c : AC) kh_2769 s_2771 (k_2748 : Nat) => ((Bool.rec (motive := fun _ => AC) c (.inr (kh_2769, (.inl s_2771))) (Bool.rec (motive := fun _ => Bool) false (resG_a3 kh_2769 k_2748) (Nat.blt kh_2769 (nat_lit 100)))) : AC)
noncomputable def resG (look : Nat → Option AC) (nx nI : Nat) (c : AC) : AC :=
  (Sum.rec (motive := fun _ => AC) (fun x_2746 => c) (fun x_2747 => (Prod.rec (motive := fun _ => AC) (fun k_2748 x_2749 => (Sum.rec (motive := fun _ => AC) (fun x_2750 => (List.rec (motive := fun _ => AC) c (fun x_2752 x_2753 _ => (Sum.rec (motive := fun _ => AC) (fun x_2754 => (Prod.rec (motive := fun _ => AC) (fun z_2756 x_2757 => (List.rec (motive := fun _ => AC) c (fun x_2758 x_2759 _ => (Prod.rec (motive := fun _ => AC) (fun y_2760 w_2761 => (List.rec (motive := fun _ => AC) (List.rec (motive := fun _ => AC) (Bool.rec (motive := fun _ => AC) c (Option.rec (motive := fun _ => AC) c (fun x_2766 => (Sum.rec (motive := fun _ => AC) (fun x_2767 => c) (fun x_2768 => (Prod.rec (motive := fun _ => AC) (fun kh_2769 x_2770 => (Sum.rec (motive := fun _ => AC) (fun s_2771 => (resG_a4 c kh_2769 s_2771 k_2748)) (fun x_2772 => c) x_2770)) x_2768)) x_2766)) (look (Nat.sub y_2760 nx))) (Bool.rec (motive := fun _ => Bool) false (resG_a2 y_2760 nx nI w_2761 z_2756) (Nat.ble (nat_lit 100) k_2748))) (fun x_2764 x_2765 _ => c) x_2753) (fun x_2762 x_2763 _ => c) x_2759)) x_2758)) x_2757)) x_2754)) (fun x_2755 => c) x_2752)) x_2750)) (fun x_2751 => c) x_2749)) x_2747)) c)
theorem resG_def (look : Nat → Option AC) (nx nI : Nat) (c : AC) : resG look nx nI c = (match c with
  | .inr (k, .inl [.inl (z, [(y, w)])]) => bif (bif Nat.ble 100 k then (bif isZ z then (bif eqI w 1 then (bif Nat.ble nx y then Nat.blt (Nat.sub y nx) nI else false) else false) else false) else false) then (match look (Nat.sub y nx) with
    | some (.inr (kh, .inl s)) => bif (bif Nat.blt kh 100 then Nat.beq (Nat.add kh 100) k else false) then .inr (kh, .inl s) else c
    | _ => c) else c
  | c => c) := by
  show (Sum.rec (motive := fun _ => AC) (fun x_2719 => c) (fun x_2720 => (Prod.rec (motive := fun _ => AC) (fun k_2721 x_2722 => (Sum.rec (motive := fun _ => AC) (fun x_2723 => (List.rec (motive := fun _ => AC) c (fun x_2725 x_2726 _ => (Sum.rec (motive := fun _ => AC) (fun x_2727 => (Prod.rec (motive := fun _ => AC) (fun z_2729 x_2730 => (List.rec (motive := fun _ => AC) c (fun x_2731 x_2732 _ => (Prod.rec (motive := fun _ => AC) (fun y_2733 w_2734 => (List.rec (motive := fun _ => AC) (List.rec (motive := fun _ => AC) (Bool.rec (motive := fun _ => AC) c (Option.rec (motive := fun _ => AC) c (fun x_2739 => (Sum.rec (motive := fun _ => AC) (fun x_2740 => c) (fun x_2741 => (Prod.rec (motive := fun _ => AC) (fun kh_2742 x_2743 => (Sum.rec (motive := fun _ => AC) (fun s_2744 => (Bool.rec (motive := fun _ => AC) c (.inr (kh_2742, (.inl s_2744))) (Bool.rec (motive := fun _ => Bool) false (Nat.beq (Nat.add kh_2742 (nat_lit 100)) k_2721) (Nat.blt kh_2742 (nat_lit 100))))) (fun x_2745 => c) x_2743)) x_2741)) x_2739)) (look (Nat.sub y_2733 nx))) (Bool.rec (motive := fun _ => Bool) false (Bool.rec (motive := fun _ => Bool) false (Bool.rec (motive := fun _ => Bool) false (Bool.rec (motive := fun _ => Bool) false (Nat.blt (Nat.sub y_2733 nx) nI) (Nat.ble nx y_2733)) (eqI w_2734 (.ofNat (nat_lit 1)))) (isZ z_2729)) (Nat.ble (nat_lit 100) k_2721))) (fun x_2737 x_2738 _ => c) x_2726) (fun x_2735 x_2736 _ => c) x_2732)) x_2731)) x_2730)) x_2727)) (fun x_2728 => c) x_2725)) x_2723)) (fun x_2724 => c) x_2722)) x_2720)) c) = _
  try simp only [iAddQ_eq, iMulQ_eq, iNegQ_eq, lenQ_eq, nthQ_eq, setQ_eq, appQ_eq, mapQ_eq, allQ_eq, anyQ_eq, dropQ_eq, takeQ_eq, revQ_eq, getDQ_eq, optLQ_eq, brecC]
  all_goals
    cases c with
    | inl y_2773 =>
      try dsimp only [cond_false, cond_true]
      all_goals rfl
    | inr y_2774 =>
      try dsimp only [cond_false, cond_true]
      all_goals
        cases y_2774 with
        | mk y_2775 y_2776 =>
          try dsimp only [cond_false, cond_true]
          all_goals
            cases y_2776 with
            | inl y_2777 =>
              try dsimp only [cond_false, cond_true]
              all_goals
                cases y_2777 with
                | nil =>
                  try dsimp only [cond_false, cond_true]
                  all_goals rfl
                | cons y_2778 y_2779 =>
                  try dsimp only [cond_false, cond_true]
                  all_goals
                    cases y_2778 with
                    | inl y_2780 =>
                      try dsimp only [cond_false, cond_true]
                      all_goals
                        cases y_2780 with
                        | mk y_2781 y_2782 =>
                          try dsimp only [cond_false, cond_true]
                          all_goals
                            cases y_2782 with
                            | nil =>
                              try dsimp only [cond_false, cond_true]
                              all_goals rfl
                            | cons y_2783 y_2784 =>
                              try dsimp only [cond_false, cond_true]
                              all_goals
                                cases y_2783 with
                                | mk y_2785 y_2786 =>
                                  try dsimp only [cond_false, cond_true]
                                  all_goals
                                    cases y_2784 with
                                    | nil =>
                                      try dsimp only [cond_false, cond_true]
                                      all_goals
                                        cases y_2779 with
                                        | nil =>
                                          try dsimp only [cond_false, cond_true]
                                          all_goals
                                            cases hq_11 : ((bif (Nat.ble 100 y_2775) then ((bif (isZ y_2781) then ((bif (eqI y_2786 1) then ((bif (Nat.ble nx y_2785) then (Nat.blt ((Nat.sub y_2785 nx)) nI) else false)) else false)) else false)) else false)) with
                                            | false =>
                                              try dsimp only [cond_false, cond_true]
                                              all_goals rfl
                                            | true =>
                                              try dsimp only [cond_false, cond_true]
                                              all_goals
                                                cases hq_12 : (look ((Nat.sub y_2785 nx))) with
                                                | none =>
                                                  try dsimp only [cond_false, cond_true]
                                                  all_goals rfl
                                                | some y_2787 =>
                                                  try dsimp only [cond_false, cond_true]
                                                  all_goals
                                                    cases y_2787 with
                                                    | inl y_2788 =>
                                                      try dsimp only [cond_false, cond_true]
                                                      all_goals rfl
                                                    | inr y_2789 =>
                                                      try dsimp only [cond_false, cond_true]
                                                      all_goals
                                                        cases y_2789 with
                                                        | mk y_2790 y_2791 =>
                                                          try dsimp only [cond_false, cond_true]
                                                          all_goals
                                                            cases y_2791 with
                                                            | inl y_2792 =>
                                                              try dsimp only [cond_false, cond_true]
                                                              all_goals
                                                                cases hq_16 : ((bif (Nat.blt y_2790 100) then (Nat.beq ((Nat.add y_2790 100)) y_2775) else false)) with
                                                                | false =>
                                                                  try dsimp only [cond_false, cond_true]
                                                                  all_goals rfl
                                                                | true =>
                                                                  try dsimp only [cond_false, cond_true]
                                                                  all_goals rfl
                                                            | inr y_2793 =>
                                                              try dsimp only [cond_false, cond_true]
                                                              all_goals rfl
                                        | cons y_2794 y_2795 =>
                                          try dsimp only [cond_false, cond_true]
                                          all_goals rfl
                                    | cons y_2796 y_2797 =>
                                      try dsimp only [cond_false, cond_true]
                                      all_goals rfl
                    | inr y_2798 =>
                      try dsimp only [cond_false, cond_true]
                      all_goals rfl
            | inr y_2799 =>
              try dsimp only [cond_false, cond_true]
              all_goals rfl
noncomputable def lookZ (f : Nat → AC) (N i : Nat) : Option AC :=
  (Bool.rec (motive := fun _ => Option AC) none (some (f i)) (Nat.blt i N))
theorem lookZ_def (f : Nat → AC) (N i : Nat) : lookZ f N i = bif Nat.blt i N then some (f i) else none := by
  show (Bool.rec (motive := fun _ => Option AC) none (some (f i)) (Nat.blt i N)) = _
  try simp only [iAddQ_eq, iMulQ_eq, iNegQ_eq, lenQ_eq, nthQ_eq, setQ_eq, appQ_eq, mapQ_eq, allQ_eq, anyQ_eq, dropQ_eq, takeQ_eq, revQ_eq, getDQ_eq, optLQ_eq, brecC]
  all_goals
    cases hq_1 : (Nat.blt i N) with
    | false =>
      try dsimp only [cond_false, cond_true]
      all_goals rfl
    | true =>
      try dsimp only [cond_false, cond_true]
      all_goals rfl
noncomputable def resAll_a0 :=
  fun (f_2802 : (Nat → AC)) (H : AH) (nx : Nat) (nI : Nat) (H1 : AH) => ((mapQ (resG (lookZ f_2802 (lenQ H)) nx nI) H1) : AH)
noncomputable def resAll (nx nI : Nat) (H H1 : AH) : AH :=
  (Bool.rec (motive := fun _ => AH) (mapQ (resC nx nI H) H1) (Prod.rec (motive := fun _ => AH) (fun f_2802 x_2803 => (resAll_a0 f_2802 H nx nI H1)) (balZ (lvZ H) H)) (Nat.ble (lenQ H) (Nat.shiftLeft (nat_lit 1) (lvZ H))))
theorem resAll_def (nx nI : Nat) (H H1 : AH) : resAll nx nI H H1 = (bif Nat.ble H.length (Nat.shiftLeft 1 (lvZ H)) then (match balZ (lvZ H) H with
  | (f, _) => H1.map (resG (lookZ f H.length) nx nI)) else H1.map (resC nx nI H)) := by
  show (Bool.rec (motive := fun _ => AH) (mapQ (resC nx nI H) H1) (Prod.rec (motive := fun _ => AH) (fun f_2800 x_2801 => (mapQ (resG (lookZ f_2800 (lenQ H)) nx nI) H1)) (balZ (lvZ H) H)) (Nat.ble (lenQ H) (Nat.shiftLeft (nat_lit 1) (lvZ H)))) = _
  try simp only [iAddQ_eq, iMulQ_eq, iNegQ_eq, lenQ_eq, nthQ_eq, setQ_eq, appQ_eq, mapQ_eq, allQ_eq, anyQ_eq, dropQ_eq, takeQ_eq, revQ_eq, getDQ_eq, optLQ_eq, brecC]
  all_goals
    cases hq_1 : (Nat.ble H.length ((Nat.shiftLeft 1 ((lvZ H))))) with
    | false =>
      try dsimp only [cond_false, cond_true]
      all_goals rfl
    | true =>
      try dsimp only [cond_false, cond_true]
      all_goals
        cases hq_2 : (balZ ((lvZ H)) H) with
        | mk y_2804 y_2805 =>
          try dsimp only [cond_false, cond_true]
          all_goals rfl
theorem lookZ_eq {H : AH} {f : Nat → AC} (hf : ∀ t, t < H.length → f t = H.getD t (.inl (0, []))) : lookZ f H.length = fun i => H[i]? := by
  funext i
  rw [lookZ_def]
  cases hb : Nat.blt i H.length with
  | true =>
    have hk := blt_iff.mp hb
    rw [cond_true, hf i hk, List.getD_eq_getElem?_getD, List.getElem?_eq_getElem hk]
    rfl
  | false =>
    have hk := blt_f hb
    rw [cond_false, List.getElem?_eq_none (by omega)]
theorem resG_eq {H : AH} {nx nI : Nat} (c : AC) : resG (fun i => H[i]?) nx nI c = resC nx nI H c := by
  rw [resG_def, resC_def]
  all_goals first
    | rfl
    | (split <;> rfl)
    | (split <;> split <;> first | rfl | (exfalso; simp_all))
theorem resAll_eq (nx nI : Nat) (H H1 : AH) : resAll nx nI H H1 = H1.map (resC nx nI H) := by
  rw [resAll_def]
  cases hc : Nat.ble H.length (Nat.shiftLeft 1 (lvZ H)) with
  | false => rfl
  | true =>
    have h3 := Nat.le_of_ble_eq_true hc
    rw [show Nat.shiftLeft 1 (lvZ H) = 2 ^ lvZ H from Nat.one_shiftLeft _] at h3
    obtain ⟨-, b2⟩ := balZ_ok (lvZ H) H
    cases hb : balZ (lvZ H) H with
    | mk f r =>
      rw [hb] at b2
      try dsimp only at b2
      show H1.map (resG (lookZ f H.length) nx nI) = _
      rw [lookZ_eq (fun t ht => b2 t (by omega))]
      exact List.map_congr_left fun c _ => resG_eq c
noncomputable def sameA_a0 :=
  fun (e_2838 : Ln) (e_2850 : Ln) => ((Bool.rec (motive := fun _ => Bool) false (eqT e_2838.2 e_2850.2) (eqI e_2838.1 e_2850.1)) : Bool)
noncomputable def sameA_a1 :=
  fun (e_2838 : Ln) (e_2850 : Ln) (k_2844 : Nat) => ((Bool.rec (motive := fun _ => Bool) false (sameA_a0 e_2838 e_2850) (Nat.ble (nat_lit 100) k_2844)) : Bool)
noncomputable def sameA_a2 :=
  fun (e_2838 : Ln) (e_2850 : Ln) (k_2844 : Nat) (k_2832 : Nat) => ((Bool.rec (motive := fun _ => Bool) false (sameA_a1 e_2838 e_2850 k_2844) (Nat.ble (nat_lit 100) k_2832)) : Bool)
noncomputable def sameA (a b : AC) : Bool :=
  (Sum.rec (motive := fun _ => Bool) (fun x_2830 => false) (fun x_2831 => (Prod.rec (motive := fun _ => Bool) (fun k_2832 x_2833 => (Sum.rec (motive := fun _ => Bool) (fun x_2834 => (List.rec (motive := fun _ => Bool) false (fun x_2836 x_2837 _ => (Sum.rec (motive := fun _ => Bool) (fun e_2838 => (List.rec (motive := fun _ => Bool) (Sum.rec (motive := fun _ => Bool) (fun x_2842 => false) (fun x_2843 => (Prod.rec (motive := fun _ => Bool) (fun k_2844 x_2845 => (Sum.rec (motive := fun _ => Bool) (fun x_2846 => (List.rec (motive := fun _ => Bool) false (fun x_2848 x_2849 _ => (Sum.rec (motive := fun _ => Bool) (fun e_2850 => (List.rec (motive := fun _ => Bool) (sameA_a2 e_2838 e_2850 k_2844 k_2832) (fun x_2852 x_2853 _ => false) x_2849)) (fun x_2851 => false) x_2848)) x_2846)) (fun x_2847 => false) x_2845)) x_2843)) b) (fun x_2840 x_2841 _ => false) x_2837)) (fun x_2839 => false) x_2836)) x_2834)) (fun x_2835 => false) x_2833)) x_2831)) a)
theorem sameA_def (a b : AC) : sameA a b = (match a, b with
  | .inr (k, .inl [.inl e]), .inr (k', .inl [.inl e']) => bif Nat.ble 100 k then (bif Nat.ble 100 k' then (bif eqI e.1 e'.1 then eqT e.2 e'.2 else false) else false) else false
  | _, _ => false) := by
  show (Sum.rec (motive := fun _ => Bool) (fun x_2806 => false) (fun x_2807 => (Prod.rec (motive := fun _ => Bool) (fun k_2808 x_2809 => (Sum.rec (motive := fun _ => Bool) (fun x_2810 => (List.rec (motive := fun _ => Bool) false (fun x_2812 x_2813 _ => (Sum.rec (motive := fun _ => Bool) (fun e_2814 => (List.rec (motive := fun _ => Bool) (Sum.rec (motive := fun _ => Bool) (fun x_2818 => false) (fun x_2819 => (Prod.rec (motive := fun _ => Bool) (fun k_2820 x_2821 => (Sum.rec (motive := fun _ => Bool) (fun x_2822 => (List.rec (motive := fun _ => Bool) false (fun x_2824 x_2825 _ => (Sum.rec (motive := fun _ => Bool) (fun e_2826 => (List.rec (motive := fun _ => Bool) (Bool.rec (motive := fun _ => Bool) false (Bool.rec (motive := fun _ => Bool) false (Bool.rec (motive := fun _ => Bool) false (eqT e_2814.2 e_2826.2) (eqI e_2814.1 e_2826.1)) (Nat.ble (nat_lit 100) k_2820)) (Nat.ble (nat_lit 100) k_2808)) (fun x_2828 x_2829 _ => false) x_2825)) (fun x_2827 => false) x_2824)) x_2822)) (fun x_2823 => false) x_2821)) x_2819)) b) (fun x_2816 x_2817 _ => false) x_2813)) (fun x_2815 => false) x_2812)) x_2810)) (fun x_2811 => false) x_2809)) x_2807)) a) = _
  try simp only [iAddQ_eq, iMulQ_eq, iNegQ_eq, lenQ_eq, nthQ_eq, setQ_eq, appQ_eq, mapQ_eq, allQ_eq, anyQ_eq, dropQ_eq, takeQ_eq, revQ_eq, getDQ_eq, optLQ_eq, brecC]
  all_goals
    cases a with
    | inl y_2854 =>
      try dsimp only [cond_false, cond_true]
      all_goals rfl
    | inr y_2855 =>
      try dsimp only [cond_false, cond_true]
      all_goals
        cases y_2855 with
        | mk y_2856 y_2857 =>
          try dsimp only [cond_false, cond_true]
          all_goals
            cases y_2857 with
            | inl y_2858 =>
              try dsimp only [cond_false, cond_true]
              all_goals
                cases y_2858 with
                | nil =>
                  try dsimp only [cond_false, cond_true]
                  all_goals rfl
                | cons y_2859 y_2860 =>
                  try dsimp only [cond_false, cond_true]
                  all_goals
                    cases y_2859 with
                    | inl y_2861 =>
                      try dsimp only [cond_false, cond_true]
                      all_goals
                        cases y_2860 with
                        | nil =>
                          try dsimp only [cond_false, cond_true]
                          all_goals
                            cases b with
                            | inl y_2862 =>
                              try dsimp only [cond_false, cond_true]
                              all_goals rfl
                            | inr y_2863 =>
                              try dsimp only [cond_false, cond_true]
                              all_goals
                                cases y_2863 with
                                | mk y_2864 y_2865 =>
                                  try dsimp only [cond_false, cond_true]
                                  all_goals
                                    cases y_2865 with
                                    | inl y_2866 =>
                                      try dsimp only [cond_false, cond_true]
                                      all_goals
                                        cases y_2866 with
                                        | nil =>
                                          try dsimp only [cond_false, cond_true]
                                          all_goals rfl
                                        | cons y_2867 y_2868 =>
                                          try dsimp only [cond_false, cond_true]
                                          all_goals
                                            cases y_2867 with
                                            | inl y_2869 =>
                                              try dsimp only [cond_false, cond_true]
                                              all_goals
                                                cases y_2868 with
                                                | nil =>
                                                  try dsimp only [cond_false, cond_true]
                                                  all_goals
                                                    cases hq_13 : (Nat.ble 100 y_2856) with
                                                    | false =>
                                                      try dsimp only [cond_false, cond_true]
                                                      all_goals rfl
                                                    | true =>
                                                      try dsimp only [cond_false, cond_true]
                                                      all_goals
                                                        cases hq_14 : (Nat.ble 100 y_2864) with
                                                        | false =>
                                                          try dsimp only [cond_false, cond_true]
                                                          all_goals rfl
                                                        | true =>
                                                          try dsimp only [cond_false, cond_true]
                                                          all_goals
                                                            cases hq_15 : (eqI y_2861.1 y_2869.1) with
                                                            | false =>
                                                              try dsimp only [cond_false, cond_true]
                                                              all_goals rfl
                                                            | true =>
                                                              try dsimp only [cond_false, cond_true]
                                                              all_goals rfl
                                                | cons y_2870 y_2871 =>
                                                  try dsimp only [cond_false, cond_true]
                                                  all_goals rfl
                                            | inr y_2872 =>
                                              try dsimp only [cond_false, cond_true]
                                              all_goals rfl
                                    | inr y_2873 =>
                                      try dsimp only [cond_false, cond_true]
                                      all_goals rfl
                        | cons y_2874 y_2875 =>
                          try dsimp only [cond_false, cond_true]
                          all_goals rfl
                    | inr y_2876 =>
                      try dsimp only [cond_false, cond_true]
                      all_goals rfl
            | inr y_2877 =>
              try dsimp only [cond_false, cond_true]
              all_goals rfl
noncomputable def getC (H : AH) (i : Nat) : AC :=
  (getDQ H i (.inl ((nat_lit 0), [])))
theorem getC_def (H : AH) (i : Nat) : getC H i = H.getD i (.inl (0, [])) := by
  show (getDQ H i (.inl ((nat_lit 0), []))) = _
  try simp only [iAddQ_eq, iMulQ_eq, iNegQ_eq, lenQ_eq, nthQ_eq, setQ_eq, appQ_eq, mapQ_eq, allQ_eq, anyQ_eq, dropQ_eq, takeQ_eq, revQ_eq, getDQ_eq, optLQ_eq, brecC]
  all_goals rfl
noncomputable def okP_a0 :=
  fun (H' : AH) (h_0 : Nat) (I : List Nat) (H1 : AH) => ((sameA (getC H' (ixA h_0 I)) (getC H1 (ixA h_0 I))) : Bool)
noncomputable def okP_a1 :=
  fun (ih : Bool) (h_0 : Nat) (n : Nat) (H' : AH) (I : List Nat) (H1 : AH) => ((Bool.rec (motive := fun _ => Bool) false (ih) (Bool.rec (motive := fun _ => Bool) (Nat.blt h_0 n) (okP_a0 H' h_0 I H1) (memN h_0 I))) : Bool)
noncomputable def okP (I : List Nat) (n : Nat) (H' H1 : AH) : List Nat → Bool :=
  fun e_0 => List.rec (motive := fun _ => Bool) true (fun h_0 t_0 ih => (okP_a1 ih h_0 n H' I H1)) e_0 
theorem okP_def (I : List Nat) (n : Nat) (H' H1 : AH) (e_0 : List Nat) : okP I n H' H1 e_0 = (match e_0 with
  | [] => true
  | c :: r => bif (bif memN c I then sameA (getC H' (ixA c I)) (getC H1 (ixA c I)) else Nat.blt c n) then okP I n H' H1 r else false) := by
  cases e_0 with
  | nil =>
    show true = _
    try simp only [iAddQ_eq, iMulQ_eq, iNegQ_eq, lenQ_eq, nthQ_eq, setQ_eq, appQ_eq, mapQ_eq, allQ_eq, anyQ_eq, dropQ_eq, takeQ_eq, revQ_eq, getDQ_eq, optLQ_eq, brecC]
    all_goals rfl
  | cons h_0 t_0 =>
    show (Bool.rec (motive := fun _ => Bool) false (okP I n H' H1 t_0) (Bool.rec (motive := fun _ => Bool) (Nat.blt h_0 n) (sameA (getC H' (ixA h_0 I)) (getC H1 (ixA h_0 I))) (memN h_0 I))) = _
    try simp only [iAddQ_eq, iMulQ_eq, iNegQ_eq, lenQ_eq, nthQ_eq, setQ_eq, appQ_eq, mapQ_eq, allQ_eq, anyQ_eq, dropQ_eq, takeQ_eq, revQ_eq, getDQ_eq, optLQ_eq, brecC]
    all_goals
      cases hq_1 : ((bif (memN h_0 I) then (sameA ((getC H' ((ixA h_0 I)))) ((getC H1 ((ixA h_0 I))))) else (Nat.blt h_0 n))) with
      | false =>
        try dsimp only [cond_false, cond_true]
        all_goals rfl
      | true =>
        try dsimp only [cond_false, cond_true]
        all_goals rfl
noncomputable def prSame_a0 :=
  fun (ih : List PD) (h_0 : PD) (I : List Nat) (n : Nat) (H' : AH) (H1 : AH) => ((Bool.rec (motive := fun _ => List PD) (ih) (h_0 :: (ih)) (okP I n H' H1 h_0.2.1)) : List PD)
noncomputable def prSame (I : List Nat) (n : Nat) (H' H1 : AH) : List PD → List PD :=
  fun e_0 => List.rec (motive := fun _ => List PD) [] (fun h_0 t_0 ih => (prSame_a0 ih h_0 I n H' H1)) e_0 
theorem prSame_def (I : List Nat) (n : Nat) (H' H1 : AH) (e_0 : List PD) : prSame I n H' H1 e_0 = (match e_0 with
  | [] => []
  | p :: r => bif okP I n H' H1 p.2.1 then p :: prSame I n H' H1 r else prSame I n H' H1 r) := by
  cases e_0 with
  | nil =>
    show [] = _
    try simp only [iAddQ_eq, iMulQ_eq, iNegQ_eq, lenQ_eq, nthQ_eq, setQ_eq, appQ_eq, mapQ_eq, allQ_eq, anyQ_eq, dropQ_eq, takeQ_eq, revQ_eq, getDQ_eq, optLQ_eq, brecC]
    all_goals rfl
  | cons h_0 t_0 =>
    show (Bool.rec (motive := fun _ => List PD) (prSame I n H' H1 t_0) (h_0 :: (prSame I n H' H1 t_0)) (okP I n H' H1 h_0.2.1)) = _
    try simp only [iAddQ_eq, iMulQ_eq, iNegQ_eq, lenQ_eq, nthQ_eq, setQ_eq, appQ_eq, mapQ_eq, allQ_eq, anyQ_eq, dropQ_eq, takeQ_eq, revQ_eq, getDQ_eq, optLQ_eq, brecC]
    all_goals
      cases hq_1 : (okP I n H' H1 h_0.2.1) with
      | false =>
        try dsimp only [cond_false, cond_true]
        all_goals rfl
      | true =>
        try dsimp only [cond_false, cond_true]
        all_goals rfl
noncomputable def copyTo_a0 :=
  fun (ih : AH → List PD) (H1_2879 : List AC) (kd : Nat) (h_0 : Nat) (ns : List Ln) (c : AC) (h_2878 : AC) => ((Bool.rec (motive := fun _ => List PD) (ih H1_2879) ((kd, [h_0], ns) :: (ih H1_2879)) (sameA c h_2878)) : List PD)
noncomputable def copyTo (kd : Nat) (ns : List Ln) (c : AC) : List Nat → AH → List PD :=
  fun e_0 e_1 => List.rec (motive := fun _ => AH → List PD) (fun e_1 => []) (fun h_0 t_0 ih e_1 => (List.rec (motive := fun _ => List PD) [] (fun h_2878 H1_2879 _ => (copyTo_a0 ih H1_2879 kd h_0 ns c h_2878)) e_1)) e_0 e_1
theorem copyTo_def (kd : Nat) (ns : List Ln) (c : AC) (e_0 : List Nat) (e_1 : AH) : copyTo kd ns c e_0 e_1 = (match e_0, e_1 with
  | i :: I, h :: H1 => bif sameA c h then (kd, [i], ns) :: copyTo kd ns c I H1 else copyTo kd ns c I H1
  | _, _ => []) := by
  cases e_0 with
  | nil =>
    show [] = _
    try simp only [iAddQ_eq, iMulQ_eq, iNegQ_eq, lenQ_eq, nthQ_eq, setQ_eq, appQ_eq, mapQ_eq, allQ_eq, anyQ_eq, dropQ_eq, takeQ_eq, revQ_eq, getDQ_eq, optLQ_eq, brecC]
    all_goals rfl
  | cons h_0 t_0 =>
    show (List.rec (motive := fun _ => List PD) [] (fun h_2880 H1_2881 _ => (Bool.rec (motive := fun _ => List PD) (copyTo kd ns c t_0 H1_2881) ((kd, [h_0], ns) :: (copyTo kd ns c t_0 H1_2881)) (sameA c h_2880))) e_1) = _
    try simp only [iAddQ_eq, iMulQ_eq, iNegQ_eq, lenQ_eq, nthQ_eq, setQ_eq, appQ_eq, mapQ_eq, allQ_eq, anyQ_eq, dropQ_eq, takeQ_eq, revQ_eq, getDQ_eq, optLQ_eq, brecC]
    all_goals
      cases e_1 with
      | nil =>
        try dsimp only [cond_false, cond_true]
        all_goals rfl
      | cons y_2882 y_2883 =>
        try dsimp only [cond_false, cond_true]
        all_goals
          cases hq_2 : (sameA c y_2882) with
          | false =>
            try dsimp only [cond_false, cond_true]
            all_goals rfl
          | true =>
            try dsimp only [cond_false, cond_true]
            all_goals rfl
noncomputable def prCopy_a0 :=
  fun (h_0 : PD) (H' : AH) (q_2884 : Nat) (I : List Nat) (H1 : AH) (ih : List PD) => ((appQ (copyTo h_0.1 h_0.2.2 (getC H' (ixA q_2884 I)) I H1) (ih)) : List PD)
noncomputable def prCopy_a1 :=
  fun (ih : List PD) (h_0 : PD) (H' : AH) (q_2884 : Nat) (I : List Nat) (H1 : AH) => ((Bool.rec (motive := fun _ => List PD) (ih) (prCopy_a0 h_0 H' q_2884 I H1 ih) (memN q_2884 I)) : List PD)
noncomputable def prCopy (I : List Nat) (H' H1 : AH) : List PD → List PD :=
  fun e_0 => List.rec (motive := fun _ => List PD) [] (fun h_0 t_0 ih => (List.rec (motive := fun _ => List PD) (ih) (fun q_2884 x_2885 _ => (List.rec (motive := fun _ => List PD) (prCopy_a1 ih h_0 H' q_2884 I H1) (fun x_2886 x_2887 _ => (ih)) x_2885)) h_0.2.1)) e_0 
theorem prCopy_def (I : List Nat) (H' H1 : AH) (e_0 : List PD) : prCopy I H' H1 e_0 = (match e_0 with
  | [] => []
  | p :: r => match p.2.1 with
    | [q] => bif memN q I then copyTo p.1 p.2.2 (getC H' (ixA q I)) I H1 ++ prCopy I H' H1 r else prCopy I H' H1 r
    | _ => prCopy I H' H1 r) := by
  cases e_0 with
  | nil =>
    show [] = _
    try simp only [iAddQ_eq, iMulQ_eq, iNegQ_eq, lenQ_eq, nthQ_eq, setQ_eq, appQ_eq, mapQ_eq, allQ_eq, anyQ_eq, dropQ_eq, takeQ_eq, revQ_eq, getDQ_eq, optLQ_eq, brecC]
    all_goals rfl
  | cons h_0 t_0 =>
    show (List.rec (motive := fun _ => List PD) (prCopy I H' H1 t_0) (fun q_2888 x_2889 _ => (List.rec (motive := fun _ => List PD) (Bool.rec (motive := fun _ => List PD) (prCopy I H' H1 t_0) (appQ (copyTo h_0.1 h_0.2.2 (getC H' (ixA q_2888 I)) I H1) (prCopy I H' H1 t_0)) (memN q_2888 I)) (fun x_2890 x_2891 _ => (prCopy I H' H1 t_0)) x_2889)) h_0.2.1) = _
    try simp only [iAddQ_eq, iMulQ_eq, iNegQ_eq, lenQ_eq, nthQ_eq, setQ_eq, appQ_eq, mapQ_eq, allQ_eq, anyQ_eq, dropQ_eq, takeQ_eq, revQ_eq, getDQ_eq, optLQ_eq, brecC]
    all_goals
      cases hq_1 : h_0.2.1 with
      | nil =>
        try dsimp only [cond_false, cond_true]
        all_goals rfl
      | cons y_2892 y_2893 =>
        try dsimp only [cond_false, cond_true]
        all_goals
          cases y_2893 with
          | nil =>
            try dsimp only [cond_false, cond_true]
            all_goals
              cases hq_3 : (memN y_2892 I) with
              | false =>
                try dsimp only [cond_false, cond_true]
                all_goals rfl
              | true =>
                try dsimp only [cond_false, cond_true]
                all_goals rfl
          | cons y_2894 y_2895 =>
            try dsimp only [cond_false, cond_true]
            all_goals rfl
noncomputable def prSb (θ : Th) (pr : List PD) : List PD :=
  (mapQ (fun p => (p.1, p.2.1, (mapQ (sbL θ) p.2.2))) pr)
theorem prSb_def (θ : Th) (pr : List PD) : prSb θ pr = pr.map (fun p => (p.1, p.2.1, p.2.2.map (sbL θ))) := by
  show (mapQ (fun p => (p.1, p.2.1, (mapQ (sbL θ) p.2.2))) pr) = _
  try simp only [iAddQ_eq, iMulQ_eq, iNegQ_eq, lenQ_eq, nthQ_eq, setQ_eq, appQ_eq, mapQ_eq, allQ_eq, anyQ_eq, dropQ_eq, takeQ_eq, revQ_eq, getDQ_eq, optLQ_eq, brecC]
  all_goals rfl
noncomputable def outK_a0 :=
  fun (A : AH) (H1 : AH) => ((Nat.blt (Nat.add (lenQ A) (lenQ H1)) sIdx) : Bool)
noncomputable def outK_a1 :=
  fun (A : AH) (H1 : AH) => ((Bool.rec (motive := fun _ => Bool) false (outK_a0 A H1) (allQ (okCA (lenQ A)) A)) : Bool)
noncomputable def outK_a2 :=
  fun (k : KK) (pc : Nat) (θo : Th) (o : Ot) (rest : List AV) (lv : AL) (A : AH) (I : List Nat) (nx : Nat) (H : AH) (H1 : AH) (H' : AH) (pr : List PD) (pnx : Nat) (tab2 : Tb) (fs2 : List Ln) (ca : Nat) (cb : Nat) => ((k (Nat.add pc (nat_lit 3)) (appQ (mapQ (sbV θo) o.1.2.2.2.1) rest) lv (aPasteZ A I (resAll nx (lenQ I) H H1)) (appQ (prBack I (lenQ A) (lenQ H1) (prSb θo o.1.2.2.2.2.2)) (appQ (prSame I (lenQ A) H' H1 pr) (prCopy I H' H1 pr))) (Nat.add (Nat.add nx (lenQ I)) (Nat.sub o.1.1 pnx)) tab2 fs2 (Nat.add ca o.2.1) (Nat.add cb o.2.2)) : Bool)
noncomputable def outK_a3 :=
  fun (k : KK) (pc : Nat) (θo : Th) (o : Ot) (rest : List AV) (lv : AL) (A : AH) (I : List Nat) (nx : Nat) (H : AH) (H1 : AH) (H' : AH) (pr : List PD) (pnx : Nat) (tab2 : Tb) (fs2 : List Ln) (ca : Nat) (cb : Nat) => ((Bool.rec (motive := fun _ => Bool) false (outK_a2 k pc θo o rest lv A I nx H H1 H' pr pnx tab2 fs2 ca cb) (Bool.rec (motive := fun _ => Bool) (outK_a1 A H1) true (Nat.beq (lenQ H1) (lenQ I)))) : Bool)
noncomputable def outK_a4 :=
  fun (k : KK) (pc : Nat) (θo : Th) (o : Ot) (rest : List AV) (lv : AL) (A : AH) (I : List Nat) (nx : Nat) (H : AH) (H1 : AH) (H' : AH) (pr : List PD) (pnx : Nat) (tab2 : Tb) (fs2 : List Ln) (ca : Nat) (cb : Nat) => ((Bool.rec (motive := fun _ => Bool) false (outK_a3 k pc θo o rest lv A I nx H H1 H' pr pnx tab2 fs2 ca cb) (allQ (okCA (lenQ H1)) H1)) : Bool)
noncomputable def outK (k : KK) (pc : Nat) (rest : List AV) (lv : AL) (A : AH) (pr : List PD) (nx : Nat) (ca cb : Nat) (θo : Th) (I : List Nat) (H H' : AH) (pnx : Nat) (o : Ot) (tab2 : Tb) (fs2 : List Ln) (H1 : AH) : Bool :=
  (Bool.rec (motive := fun _ => Bool) false (outK_a4 k pc θo o rest lv A I nx H H1 H' pr pnx tab2 fs2 ca cb) (Nat.ble (lenQ I) (lenQ H1)))
theorem outK_def (k : KK) (pc : Nat) (rest : List AV) (lv : AL) (A : AH) (pr : List PD) (nx : Nat) (ca cb : Nat) (θo : Th) (I : List Nat) (H H' : AH) (pnx : Nat) (o : Ot) (tab2 : Tb) (fs2 : List Ln) (H1 : AH) : outK k pc rest lv A pr nx ca cb θo I H H' pnx o tab2 fs2 H1 = bif Nat.ble I.length H1.length then (bif H1.all (okCA H1.length) then (bif (bif Nat.beq H1.length I.length then true else bif A.all (okCA A.length) then Nat.blt (Nat.add A.length H1.length) sIdx else false) then k (Nat.add pc 3) (o.1.2.2.2.1.map (sbV θo) ++ rest) lv (aPasteZ A I (resAll nx I.length H H1)) (prBack I A.length H1.length (prSb θo o.1.2.2.2.2.2) ++ (prSame I A.length H' H1 pr ++ prCopy I H' H1 pr)) (Nat.add (Nat.add nx I.length) (Nat.sub o.1.1 pnx)) tab2 fs2 (Nat.add ca o.2.1) (Nat.add cb o.2.2) else false) else false) else false := by
  show (Bool.rec (motive := fun _ => Bool) false (Bool.rec (motive := fun _ => Bool) false (Bool.rec (motive := fun _ => Bool) false (k (Nat.add pc (nat_lit 3)) (appQ (mapQ (sbV θo) o.1.2.2.2.1) rest) lv (aPasteZ A I (resAll nx (lenQ I) H H1)) (appQ (prBack I (lenQ A) (lenQ H1) (prSb θo o.1.2.2.2.2.2)) (appQ (prSame I (lenQ A) H' H1 pr) (prCopy I H' H1 pr))) (Nat.add (Nat.add nx (lenQ I)) (Nat.sub o.1.1 pnx)) tab2 fs2 (Nat.add ca o.2.1) (Nat.add cb o.2.2)) (Bool.rec (motive := fun _ => Bool) (Bool.rec (motive := fun _ => Bool) false (Nat.blt (Nat.add (lenQ A) (lenQ H1)) sIdx) (allQ (okCA (lenQ A)) A)) true (Nat.beq (lenQ H1) (lenQ I)))) (allQ (okCA (lenQ H1)) H1)) (Nat.ble (lenQ I) (lenQ H1))) = _
  try simp only [iAddQ_eq, iMulQ_eq, iNegQ_eq, lenQ_eq, nthQ_eq, setQ_eq, appQ_eq, mapQ_eq, allQ_eq, anyQ_eq, dropQ_eq, takeQ_eq, revQ_eq, getDQ_eq, optLQ_eq, brecC]
  all_goals
    cases hq_1 : (Nat.ble I.length H1.length) with
    | false =>
      try dsimp only [cond_false, cond_true]
      all_goals rfl
    | true =>
      try dsimp only [cond_false, cond_true]
      all_goals
        cases hq_2 : (H1.all ((okCA H1.length))) with
        | false =>
          try dsimp only [cond_false, cond_true]
          all_goals rfl
        | true =>
          try dsimp only [cond_false, cond_true]
          all_goals
            cases hq_3 : ((bif (Nat.beq H1.length I.length) then true else (bif (A.all ((okCA A.length))) then (Nat.blt ((Nat.add A.length H1.length)) sIdx) else false))) with
            | false =>
              try dsimp only [cond_false, cond_true]
              all_goals rfl
            | true =>
              try dsimp only [cond_false, cond_true]
              all_goals rfl
noncomputable def outA_a0 :=
  fun (k : KK) (pc : Nat) (rest : List AV) (lv : AL) (A : AH) (pr : List PD) (nx : Nat) (ca : Nat) (cb : Nat) (θ : Th) (I : List Nat) (pnx : Nat) (H : AH) (H' : AH) (o : Ot) (tab2_2906 : Tb) (fs2_2907 : List Ln) => ((outK k pc rest lv A pr nx ca cb (thN θ (Nat.add nx (lenQ I)) pnx) I H H' pnx o tab2_2906 fs2_2907 (mapQ (sbC (thN θ (Nat.add nx (lenQ I)) pnx)) o.1.2.2.2.2.1)) : Bool)
noncomputable def outA (k : KK) (pc : Nat) (rest : List AV) (lv : AL) (A : AH) (pr : List PD) (nx : Nat) (tab : Tb) (fs : List Ln) (ca cb : Nat) (θ : Th) (I : List Nat) (H H' : AH) (pnx : Nat) (o : Ot) : Bool :=
  (Option.rec (motive := fun _ => Bool) true (fun x_2902 => (Prod.rec (motive := fun _ => Bool) (fun tab1_2903 fs1_2904 => (Option.rec (motive := fun _ => Bool) true (fun x_2905 => (Prod.rec (motive := fun _ => Bool) (fun tab2_2906 fs2_2907 => (outA_a0 k pc rest lv A pr nx ca cb θ I pnx H H' o tab2_2906 fs2_2907)) x_2905)) (addF' (thN θ (Nat.add nx (lenQ I)) pnx) o.1.2.2.1 (tbO tab1_2903 (Nat.add nx (lenQ I)) pnx o.1.1 o.1.2.1) fs1_2904))) x_2902)) (addT' θ pnx o.1.2.1 tab fs))
theorem outA_def (k : KK) (pc : Nat) (rest : List AV) (lv : AL) (A : AH) (pr : List PD) (nx : Nat) (tab : Tb) (fs : List Ln) (ca cb : Nat) (θ : Th) (I : List Nat) (H H' : AH) (pnx : Nat) (o : Ot) : outA k pc rest lv A pr nx tab fs ca cb θ I H H' pnx o = (match addT' θ pnx o.1.2.1 tab fs with
  | none => true
  | some (tab1, fs1) => match addF' (thN θ (Nat.add nx I.length) pnx) o.1.2.2.1 (tbO tab1 (Nat.add nx I.length) pnx o.1.1 o.1.2.1) fs1 with
    | none => true
    | some (tab2, fs2) => outK k pc rest lv A pr nx ca cb (thN θ (Nat.add nx I.length) pnx) I H H' pnx o tab2 fs2 (o.1.2.2.2.2.1.map (sbC (thN θ (Nat.add nx I.length) pnx)))) := by
  show (Option.rec (motive := fun _ => Bool) true (fun x_2896 => (Prod.rec (motive := fun _ => Bool) (fun tab1_2897 fs1_2898 => (Option.rec (motive := fun _ => Bool) true (fun x_2899 => (Prod.rec (motive := fun _ => Bool) (fun tab2_2900 fs2_2901 => (outK k pc rest lv A pr nx ca cb (thN θ (Nat.add nx (lenQ I)) pnx) I H H' pnx o tab2_2900 fs2_2901 (mapQ (sbC (thN θ (Nat.add nx (lenQ I)) pnx)) o.1.2.2.2.2.1))) x_2899)) (addF' (thN θ (Nat.add nx (lenQ I)) pnx) o.1.2.2.1 (tbO tab1_2897 (Nat.add nx (lenQ I)) pnx o.1.1 o.1.2.1) fs1_2898))) x_2896)) (addT' θ pnx o.1.2.1 tab fs)) = _
  try simp only [iAddQ_eq, iMulQ_eq, iNegQ_eq, lenQ_eq, nthQ_eq, setQ_eq, appQ_eq, mapQ_eq, allQ_eq, anyQ_eq, dropQ_eq, takeQ_eq, revQ_eq, getDQ_eq, optLQ_eq, brecC]
  all_goals
    cases hq_1 : (addT' θ pnx o.1.2.1 tab fs) with
    | none =>
      try dsimp only [cond_false, cond_true]
      all_goals rfl
    | some y_2908 =>
      try dsimp only [cond_false, cond_true]
      all_goals
        cases y_2908 with
        | mk y_2909 y_2910 =>
          try dsimp only [cond_false, cond_true]
          all_goals
            cases hq_3 : (addF' ((thN θ ((Nat.add nx I.length)) pnx)) o.1.2.2.1 ((tbO y_2909 ((Nat.add nx I.length)) pnx o.1.1 o.1.2.1)) y_2910) with
            | none =>
              try dsimp only [cond_false, cond_true]
              all_goals rfl
            | some y_2911 =>
              try dsimp only [cond_false, cond_true]
              all_goals
                cases y_2911 with
                | mk y_2912 y_2913 =>
                  try dsimp only [cond_false, cond_true]
                  all_goals rfl
noncomputable def outAll_a0 :=
  fun (ih : Bool) (k : Ot → Bool) (h_0 : Ot) => ((Bool.rec (motive := fun _ => Bool) false (ih) (k h_0)) : Bool)
noncomputable def outAll (k : Ot → Bool) : List Ot → Bool :=
  fun e_0 => List.rec (motive := fun _ => Bool) true (fun h_0 t_0 ih => (outAll_a0 ih k h_0)) e_0 
theorem outAll_def (k : Ot → Bool) (e_0 : List Ot) : outAll k e_0 = (match e_0 with
  | [] => true
  | o :: r => bif k o then outAll k r else false) := by
  cases e_0 with
  | nil =>
    show true = _
    try simp only [iAddQ_eq, iMulQ_eq, iNegQ_eq, lenQ_eq, nthQ_eq, setQ_eq, appQ_eq, mapQ_eq, allQ_eq, anyQ_eq, dropQ_eq, takeQ_eq, revQ_eq, getDQ_eq, optLQ_eq, brecC]
    all_goals rfl
  | cons h_0 t_0 =>
    show (Bool.rec (motive := fun _ => Bool) false (outAll k t_0) (k h_0)) = _
    try simp only [iAddQ_eq, iMulQ_eq, iNegQ_eq, lenQ_eq, nthQ_eq, setQ_eq, appQ_eq, mapQ_eq, allQ_eq, anyQ_eq, dropQ_eq, takeQ_eq, revQ_eq, getDQ_eq, optLQ_eq, brecC]
    all_goals
      cases hq_1 : (k h_0) with
      | false =>
        try dsimp only [cond_false, cond_true]
        all_goals rfl
      | true =>
        try dsimp only [cond_false, cond_true]
        all_goals rfl
noncomputable def oneCt_a0 :=
  fun (k : KK) (pc : Nat) (rest : List AV) (lv : AL) (A : AH) (pr : List PD) (nx : Nat) (tab : Tb) (fs : List Ln) (ca : Nat) (cb : Nat) (θ : Th) (I : List Nat) (H : AH) (H' : AH) (C : Ct) => (outAll (outA k pc rest lv A pr nx tab fs ca cb θ I H H' C.2.2.1.1) C.2.2.2)
noncomputable def oneCt_a1 :=
  fun (k : KK) (pc : Nat) (rest : List AV) (lv : AL) (A : AH) (pr : List PD) (nx : Nat) (tab : Tb) (fs : List Ln) (ca : Nat) (cb : Nat) (θ : Th) (I : List Nat) (H : AH) (H' : AH) (C : Ct) => ((some (Bool.rec (motive := fun _ => _) false (oneCt_a0 k pc rest lv A pr nx tab fs ca cb θ I H H' C) (loopJ (fun s => (scL (Nat.add nx (lenQ I)) (θ s))) C.2.2.1.1 (nat_lit 0)))) : Option Bool)
noncomputable def oneCt (k : KK) (pc : Nat) (as' : List AV) (H : AH) (pr' : List PD) (rest : List AV) (lv : AL) (A : AH) (pr : List PD) (nx : Nat) (tab : Tb) (fs : List Ln) (ca cb : Nat) (I : List Nat) (C : Ct) (H' : AH) (θ : Th) : Option Bool :=
  (Bool.rec (motive := fun _ => Option Bool) none (oneCt_a1 k pc rest lv A pr nx tab fs ca cb θ I H H' C) (instP tab fs θ C.2.2.1 as' H' pr'))
theorem oneCt_def (k : KK) (pc : Nat) (as' : List AV) (H : AH) (pr' : List PD) (rest : List AV) (lv : AL) (A : AH) (pr : List PD) (nx : Nat) (tab : Tb) (fs : List Ln) (ca cb : Nat) (I : List Nat) (C : Ct) (H' : AH) (θ : Th) : oneCt k pc as' H pr' rest lv A pr nx tab fs ca cb I C H' θ = bif instP tab fs θ C.2.2.1 as' H' pr' then some (bif loopJ (fun s => scL (Nat.add nx I.length) (θ s)) C.2.2.1.1 0 then outAll (outA k pc rest lv A pr nx tab fs ca cb θ I H H' C.2.2.1.1) C.2.2.2 else false) else none := by
  show (Bool.rec (motive := fun _ => Option Bool) none (some (Bool.rec (motive := fun _ => _) false (outAll (outA k pc rest lv A pr nx tab fs ca cb θ I H H' C.2.2.1.1) C.2.2.2) (loopJ (fun s => (scL (Nat.add nx (lenQ I)) (θ s))) C.2.2.1.1 (nat_lit 0)))) (instP tab fs θ C.2.2.1 as' H' pr')) = _
  try simp only [iAddQ_eq, iMulQ_eq, iNegQ_eq, lenQ_eq, nthQ_eq, setQ_eq, appQ_eq, mapQ_eq, allQ_eq, anyQ_eq, dropQ_eq, takeQ_eq, revQ_eq, getDQ_eq, optLQ_eq, brecC]
  all_goals
    cases hq_1 : (instP tab fs θ C.2.2.1 as' H' pr') with
    | false =>
      try dsimp only [cond_false, cond_true]
      all_goals rfl
    | true =>
      try dsimp only [cond_false, cond_true]
      all_goals rfl
noncomputable def withFO (θ : Un) (k : Th → Option Bool) : Option Bool :=
  (Prod.rec (motive := fun _ => Option Bool) (fun x_2918 x_2919 => (Prod.rec (motive := fun _ => Option Bool) (fun f_2920 x_2921 => (k f_2920)) x_2919)) (balF (nat_lit 9) θ.2))
theorem withFO_def (θ : Un) (k : Th → Option Bool) : withFO θ k = (match balF 9 θ.2 with
  | (_, f, _) => k f) := by
  show (Prod.rec (motive := fun _ => Option Bool) (fun x_2914 x_2915 => (Prod.rec (motive := fun _ => Option Bool) (fun f_2916 x_2917 => (k f_2916)) x_2915)) (balF (nat_lit 9) θ.2)) = _
  all_goals
    cases hq_1 : (balF 9 θ.2) with
    | mk y_2922 y_2923 =>
      try dsimp only [cond_false, cond_true]
      all_goals
        cases y_2923 with
        | mk y_2924 y_2925 =>
          try dsimp only [cond_false, cond_true]
          all_goals rfl
noncomputable def tryCt (k : KK) (pc : Nat) (as' : List AV) (H : AH) (pr' : List PD) (rest : List AV) (lv : AL) (A : AH) (pr : List PD) (nx : Nat) (tab : Tb) (fs : List Ln) (ca cb : Nat) (I : List Nat) (C : Ct) (H' : AH) : Option Bool :=
  (withFO (thOf tab fs C.2.2.1 as' H' pr') (oneCt k pc as' H pr' rest lv A pr nx tab fs ca cb I C H'))
theorem tryCt_def (k : KK) (pc : Nat) (as' : List AV) (H : AH) (pr' : List PD) (rest : List AV) (lv : AL) (A : AH) (pr : List PD) (nx : Nat) (tab : Tb) (fs : List Ln) (ca cb : Nat) (I : List Nat) (C : Ct) (H' : AH) : tryCt k pc as' H pr' rest lv A pr nx tab fs ca cb I C H' = withFO (thOf tab fs C.2.2.1 as' H' pr') (oneCt k pc as' H pr' rest lv A pr nx tab fs ca cb I C H') := by
  show (withFO (thOf tab fs C.2.2.1 as' H' pr') (oneCt k pc as' H pr' rest lv A pr nx tab fs ca cb I C H')) = _
  all_goals rfl
noncomputable def callCt (k : KK) (pc a : Nat) (as' : List AV) (H : AH) (pr' : List PD) (rest : List AV) (lv : AL) (A : AH) (pr : List PD) (nx : Nat) (tab : Tb) (fs : List Ln) (ca cb : Nat) (I : List Nat) : List Ct → Bool :=
  fun e_0 => List.rec (motive := fun _ => Bool) false (fun h_0 t_0 ih => (Bool.rec (motive := fun _ => Bool) (ih) (Option.rec (motive := fun _ => Bool) (ih) (fun b_2926 => b_2926) (tryCt k pc as' H pr' rest lv A pr nx tab fs ca cb I h_0 (convH nx (nat_lit 0) h_0.2.2.1.2.2.2.2.1 H))) (Nat.beq h_0.1 a))) e_0 
theorem callCt_def (k : KK) (pc a : Nat) (as' : List AV) (H : AH) (pr' : List PD) (rest : List AV) (lv : AL) (A : AH) (pr : List PD) (nx : Nat) (tab : Tb) (fs : List Ln) (ca cb : Nat) (I : List Nat) (e_0 : List Ct) : callCt k pc a as' H pr' rest lv A pr nx tab fs ca cb I e_0 = (match e_0 with
  | [] => false
  | C :: r => bif Nat.beq C.1 a then (match tryCt k pc as' H pr' rest lv A pr nx tab fs ca cb I C (convH nx 0 C.2.2.1.2.2.2.2.1 H) with
    | some b => b
    | none => callCt k pc a as' H pr' rest lv A pr nx tab fs ca cb I r) else callCt k pc a as' H pr' rest lv A pr nx tab fs ca cb I r) := by
  cases e_0 with
  | nil =>
    show false = _
    try simp only [iAddQ_eq, iMulQ_eq, iNegQ_eq, lenQ_eq, nthQ_eq, setQ_eq, appQ_eq, mapQ_eq, allQ_eq, anyQ_eq, dropQ_eq, takeQ_eq, revQ_eq, getDQ_eq, optLQ_eq, brecC]
    all_goals rfl
  | cons h_0 t_0 =>
    show (Bool.rec (motive := fun _ => Bool) (callCt k pc a as' H pr' rest lv A pr nx tab fs ca cb I t_0) (Option.rec (motive := fun _ => Bool) (callCt k pc a as' H pr' rest lv A pr nx tab fs ca cb I t_0) (fun b_2927 => b_2927) (tryCt k pc as' H pr' rest lv A pr nx tab fs ca cb I h_0 (convH nx (nat_lit 0) h_0.2.2.1.2.2.2.2.1 H))) (Nat.beq h_0.1 a)) = _
    try simp only [iAddQ_eq, iMulQ_eq, iNegQ_eq, lenQ_eq, nthQ_eq, setQ_eq, appQ_eq, mapQ_eq, allQ_eq, anyQ_eq, dropQ_eq, takeQ_eq, revQ_eq, getDQ_eq, optLQ_eq, brecC]
    all_goals
      cases hq_1 : (Nat.beq h_0.1 a) with
      | false =>
        try dsimp only [cond_false, cond_true]
        all_goals rfl
      | true =>
        try dsimp only [cond_false, cond_true]
        all_goals
          cases hq_2 : (tryCt k pc as' H pr' rest lv A pr nx tab fs ca cb I h_0 ((convH nx 0 h_0.2.2.1.2.2.2.2.1 H))) with
          | none =>
            try dsimp only [cond_false, cond_true]
            all_goals rfl
          | some y_2928 =>
            try dsimp only [cond_false, cond_true]
            all_goals rfl
noncomputable def isClsA (me : ME) (as : List AV) (A : AH) : Bool := match mKd me, as with
  | 0, .inr (.inl (some q)) :: _ => match A[q]? with
    | some (.inl (ci, _)) => bif Nat.beq ci (mOw me) then Nat.blt ci 13 else false
    | _ => false
  | 1, .inr (.inl (some _)) :: _ => true
  | 2, _ => true
  | _, _ => false
noncomputable def g7 (env : List Ct) (k : KK) (i : Instr) (a b pc : Nat) (st : List AV) (lv : AL) (A : AH) (pr : List PD) (nx : Nat) (tab : Tb) (fs : List Ln) (ca cb : Nat) : Bool :=
  bif isCall i then (match meths[a]? with
  | none => false
  | some me => bif Nat.ble b st.length then (bif Nat.ble (((st.drop b).map catA).sum) 8 then (bif (st.drop b).all (okVA A.length) then
    (fun (as : List AV) => bif isClsA me as A then (match aCutZ A as with
    | none => false
    | some I => callCt k pc a (as.map (mpV (fun j => ixA j I))) (aSubZ A I) (prIn I pr) (st.drop b) lv A pr nx tab fs ca cb I env) else false) ((st.take b).reverse) else false) else false) else false) else false
abbrev FN : Type := Option AV → AH → List PD → Tb → List Ln → Nat → Nat → Bool
noncomputable def g6 (fin : FN) (i : Instr) (st : List AV) (A : AH) (pr : List PD) (tab : Tb) (fs : List Ln) (ca cb : Nat) : Bool := match i with
  | .ireturn => match st with
    | [.inl (false, e)] => fin (some (.inl (false, e))) A pr tab fs ca cb
    | _ => false
  | .lreturn => match st with
    | [.inl (true, e)] => fin (some (.inl (true, e))) A pr tab fs ca cb
    | _ => false
  | .return_ => match st with
    | [] => fin none A pr tab fs ca cb
    | _ => false
  | _ => false
noncomputable def st0 (i : Instr) (n a : Nat) (k : KK) (st : List AV) (lv : AL) (A : AH) (pr : List PD) (nx : Nat) (tab : Tb) (fs : List Ln) (ca cb : Nat) : Bool := match g0 i a tab fs lv st with
  | some (rest, r) => pushR nx tab fs r (fun nx tab fs v => k n (v :: rest) lv A pr nx tab fs ca cb)
  | none => false
noncomputable def st1 (i : Instr) (n nL : Nat) (k : KK) (st : List AV) (lv : AL) (A : AH) (pr : List PD) (nx : Nat) (tab : Tb) (fs : List Ln) (ca cb : Nat) : Bool := match i with
  | .iinc x m => (match alGet x lv with
    | some (.inl (false, e)) => bif Nat.blt x nL then (bif leI lo32 m then (bif leI m hi32 then pushR nx tab fs (.inr (false, fitIF tab fs (pluL e m))) (fun nx tab fs v => k n st ((x, v) :: alDel false x lv) A pr nx tab fs ca cb) else false) else false) else false
    | _ => false)
  | _ => match g1 i nL A.length st lv with
    | some (rest, lv') => k n rest lv' A pr nx tab fs ca cb
    | none => false
/-- an element that is told -/
noncomputable def findE_a0 :=
  fun (ih : Option Ln) (v_2935 : Ln) (tab : Tb) (fs : List Ln) (e : Ln) (e_2933 : Ln) => ((Bool.rec (motive := fun _ => Option Ln) (ih) (some v_2935) (eqL tab fs e e_2933)) : Option Ln)
noncomputable def findE_a1 :=
  fun (ih : Option Ln) (v_2935 : Ln) (tab : Tb) (fs : List Ln) (e : Ln) (e_2933 : Ln) (q : Nat) (q_2929 : Nat) => ((Bool.rec (motive := fun _ => Option Ln) (ih) (findE_a0 ih v_2935 tab fs e e_2933) (Nat.beq q q_2929)) : Option Ln)
noncomputable def findE (tab : Tb) (fs : List Ln) (q : Nat) (e : Ln) : List PD → Option Ln :=
  fun e_0 => List.rec (motive := fun _ => Option Ln) none (fun h_0 t_0 ih => (Bool.rec (motive := fun _ => Option Ln) (ih) (List.rec (motive := fun _ => Option Ln) (ih) (fun q_2929 x_2930 _ => (List.rec (motive := fun _ => Option Ln) (List.rec (motive := fun _ => Option Ln) (ih) (fun e_2933 x_2934 _ => (List.rec (motive := fun _ => Option Ln) (ih) (fun v_2935 x_2936 _ => (List.rec (motive := fun _ => Option Ln) (findE_a1 ih v_2935 tab fs e e_2933 q q_2929) (fun x_2937 x_2938 _ => (ih)) x_2936)) x_2934)) h_0.2.2) (fun x_2931 x_2932 _ => (ih)) x_2930)) h_0.2.1) (Nat.beq h_0.1 (nat_lit 7)))) e_0 
theorem findE_def (tab : Tb) (fs : List Ln) (q : Nat) (e : Ln) (e_0 : List PD) : findE tab fs q e e_0 = (match e_0 with
  | [] => none
  | p :: r => bif Nat.beq p.1 7 then (match p.2.1, p.2.2 with
    | [q'], [e', v] => bif Nat.beq q q' then (bif eqL tab fs e e' then some v else findE tab fs q e r) else findE tab fs q e r
    | _, _ => findE tab fs q e r) else findE tab fs q e r) := by
  cases e_0 with
  | nil =>
    show none = _
    try simp only [iAddQ_eq, iMulQ_eq, iNegQ_eq, lenQ_eq, nthQ_eq, setQ_eq, appQ_eq, mapQ_eq, allQ_eq, anyQ_eq, dropQ_eq, takeQ_eq, revQ_eq, getDQ_eq, optLQ_eq, brecC]
    all_goals rfl
  | cons h_0 t_0 =>
    show (Bool.rec (motive := fun _ => Option Ln) (findE tab fs q e t_0) (List.rec (motive := fun _ => Option Ln) (findE tab fs q e t_0) (fun q_2939 x_2940 _ => (List.rec (motive := fun _ => Option Ln) (List.rec (motive := fun _ => Option Ln) (findE tab fs q e t_0) (fun e_2943 x_2944 _ => (List.rec (motive := fun _ => Option Ln) (findE tab fs q e t_0) (fun v_2945 x_2946 _ => (List.rec (motive := fun _ => Option Ln) (Bool.rec (motive := fun _ => Option Ln) (findE tab fs q e t_0) (Bool.rec (motive := fun _ => Option Ln) (findE tab fs q e t_0) (some v_2945) (eqL tab fs e e_2943)) (Nat.beq q q_2939)) (fun x_2947 x_2948 _ => (findE tab fs q e t_0)) x_2946)) x_2944)) h_0.2.2) (fun x_2941 x_2942 _ => (findE tab fs q e t_0)) x_2940)) h_0.2.1) (Nat.beq h_0.1 (nat_lit 7))) = _
    try simp only [iAddQ_eq, iMulQ_eq, iNegQ_eq, lenQ_eq, nthQ_eq, setQ_eq, appQ_eq, mapQ_eq, allQ_eq, anyQ_eq, dropQ_eq, takeQ_eq, revQ_eq, getDQ_eq, optLQ_eq, brecC]
    all_goals
      cases hq_1 : (Nat.beq h_0.1 7) with
      | false =>
        try dsimp only [cond_false, cond_true]
        all_goals rfl
      | true =>
        try dsimp only [cond_false, cond_true]
        all_goals
          cases hq_2 : h_0.2.1 with
          | nil =>
            try dsimp only [cond_false, cond_true]
            all_goals rfl
          | cons y_2949 y_2950 =>
            try dsimp only [cond_false, cond_true]
            all_goals
              cases y_2950 with
              | nil =>
                try dsimp only [cond_false, cond_true]
                all_goals
                  cases hq_4 : h_0.2.2 with
                  | nil =>
                    try dsimp only [cond_false, cond_true]
                    all_goals rfl
                  | cons y_2951 y_2952 =>
                    try dsimp only [cond_false, cond_true]
                    all_goals
                      cases y_2952 with
                      | nil =>
                        try dsimp only [cond_false, cond_true]
                        all_goals rfl
                      | cons y_2953 y_2954 =>
                        try dsimp only [cond_false, cond_true]
                        all_goals
                          cases y_2954 with
                          | nil =>
                            try dsimp only [cond_false, cond_true]
                            all_goals
                              cases hq_7 : (Nat.beq q y_2949) with
                              | false =>
                                try dsimp only [cond_false, cond_true]
                                all_goals rfl
                              | true =>
                                try dsimp only [cond_false, cond_true]
                                all_goals
                                  cases hq_8 : (eqL tab fs e y_2951) with
                                  | false =>
                                    try dsimp only [cond_false, cond_true]
                                    all_goals rfl
                                  | true =>
                                    try dsimp only [cond_false, cond_true]
                                    all_goals rfl
                          | cons y_2955 y_2956 =>
                            try dsimp only [cond_false, cond_true]
                            all_goals rfl
              | cons y_2957 y_2958 =>
                try dsimp only [cond_false, cond_true]
                all_goals rfl
noncomputable def prLd_a0 :=
  fun (r_2990 : List AV) (v_3003 : Ln) => ((some (r_2990, (.inl (.inl (false, v_3003))))) : Option SV)
noncomputable def prLd_a1 :=
  fun (r_2990 : List AV) (v_3003 : Ln) (u_3006 : Nat) s_3001 => ((Bool.rec (motive := fun _ => Option SV) none (prLd_a0 r_2990 v_3003) (Nat.blt u_3006 (sgLen s_3001))) : Option SV)
noncomputable def prLd (tab : Tb) (fs : List Ln) (A : AH) (pr : List PD) (st : List AV) : Option SV :=
  (List.rec (motive := fun _ => Option SV) none (fun x_2983 x_2984 _ => (Sum.rec (motive := fun _ => Option SV) (fun x_2985 => (Prod.rec (motive := fun _ => Option SV) (fun x_2987 e_2988 => (Bool.rec (motive := fun _ => Option SV) (List.rec (motive := fun _ => Option SV) none (fun x_2989 r_2990 _ => (Sum.rec (motive := fun _ => Option SV) (fun x_2991 => none) (fun x_2992 => (Sum.rec (motive := fun _ => Option SV) (fun x_2993 => (Option.rec (motive := fun _ => Option SV) none (fun q_2995 => (Option.rec (motive := fun _ => Option SV) none (fun x_2996 => (Sum.rec (motive := fun _ => Option SV) (fun x_2997 => none) (fun x_2998 => (Prod.rec (motive := fun _ => Option SV) (fun k_2999 x_3000 => (Sum.rec (motive := fun _ => Option SV) (fun s_3001 => (Bool.rec (motive := fun _ => Option SV) none (Option.rec (motive := fun _ => Option SV) none (fun v_3003 => (Option.rec (motive := fun _ => Option SV) none (fun x_3004 => (Prod.rec (motive := fun _ => Option SV) (fun x_3005 u_3006 => (prLd_a1 r_2990 v_3003 u_3006 s_3001)) x_3004)) (idxR tab fs e_2988))) (findE tab fs q_2995 e_2988 pr)) (Nat.beq k_2999 (nat_lit 0)))) (fun x_3002 => none) x_3000)) x_2998)) x_2996)) (nthQ A q_2995))) x_2993)) (fun x_2994 => none) x_2992)) x_2989)) x_2984) none x_2987)) x_2985)) (fun x_2986 => none) x_2983)) st)
theorem prLd_def (tab : Tb) (fs : List Ln) (A : AH) (pr : List PD) (st : List AV) : prLd tab fs A pr st = (match st with
  | .inl (false, e) :: .inr (.inl (some q)) :: r => (match A[q]? with
    | some (.inr (k, .inl s)) => bif Nat.beq k 0 then (match findE tab fs q e pr with
      | some v => (match idxR tab fs e with
        | some (_, u) => bif Nat.blt u (sgLen s) then some (r, .inl (.inl (false, v))) else none
        | none => none)
      | none => none) else none
    | _ => none)
  | _ => none) := by
  show (List.rec (motive := fun _ => Option SV) none (fun x_2959 x_2960 _ => (Sum.rec (motive := fun _ => Option SV) (fun x_2961 => (Prod.rec (motive := fun _ => Option SV) (fun x_2963 e_2964 => (Bool.rec (motive := fun _ => Option SV) (List.rec (motive := fun _ => Option SV) none (fun x_2965 r_2966 _ => (Sum.rec (motive := fun _ => Option SV) (fun x_2967 => none) (fun x_2968 => (Sum.rec (motive := fun _ => Option SV) (fun x_2969 => (Option.rec (motive := fun _ => Option SV) none (fun q_2971 => (Option.rec (motive := fun _ => Option SV) none (fun x_2972 => (Sum.rec (motive := fun _ => Option SV) (fun x_2973 => none) (fun x_2974 => (Prod.rec (motive := fun _ => Option SV) (fun k_2975 x_2976 => (Sum.rec (motive := fun _ => Option SV) (fun s_2977 => (Bool.rec (motive := fun _ => Option SV) none (Option.rec (motive := fun _ => Option SV) none (fun v_2979 => (Option.rec (motive := fun _ => Option SV) none (fun x_2980 => (Prod.rec (motive := fun _ => Option SV) (fun x_2981 u_2982 => (Bool.rec (motive := fun _ => Option SV) none (some (r_2966, (.inl (.inl (false, v_2979))))) (Nat.blt u_2982 (sgLen s_2977)))) x_2980)) (idxR tab fs e_2964))) (findE tab fs q_2971 e_2964 pr)) (Nat.beq k_2975 (nat_lit 0)))) (fun x_2978 => none) x_2976)) x_2974)) x_2972)) (nthQ A q_2971))) x_2969)) (fun x_2970 => none) x_2968)) x_2965)) x_2960) none x_2963)) x_2961)) (fun x_2962 => none) x_2959)) st) = _
  try simp only [iAddQ_eq, iMulQ_eq, iNegQ_eq, lenQ_eq, nthQ_eq, setQ_eq, appQ_eq, mapQ_eq, allQ_eq, anyQ_eq, dropQ_eq, takeQ_eq, revQ_eq, getDQ_eq, optLQ_eq, brecC]
  all_goals
    cases st with
    | nil =>
      try dsimp only [cond_false, cond_true]
      all_goals rfl
    | cons y_3007 y_3008 =>
      try dsimp only [cond_false, cond_true]
      all_goals
        cases y_3007 with
        | inl y_3009 =>
          try dsimp only [cond_false, cond_true]
          all_goals
            cases y_3009 with
            | mk y_3010 y_3011 =>
              try dsimp only [cond_false, cond_true]
              all_goals
                cases y_3010 with
                | false =>
                  try dsimp only [cond_false, cond_true]
                  all_goals
                    cases y_3008 with
                    | nil =>
                      try dsimp only [cond_false, cond_true]
                      all_goals rfl
                    | cons y_3012 y_3013 =>
                      try dsimp only [cond_false, cond_true]
                      all_goals
                        cases y_3012 with
                        | inl y_3014 =>
                          try dsimp only [cond_false, cond_true]
                          all_goals rfl
                        | inr y_3015 =>
                          try dsimp only [cond_false, cond_true]
                          all_goals
                            cases y_3015 with
                            | inl y_3016 =>
                              try dsimp only [cond_false, cond_true]
                              all_goals
                                cases y_3016 with
                                | none =>
                                  try dsimp only [cond_false, cond_true]
                                  all_goals rfl
                                | some y_3017 =>
                                  try dsimp only [cond_false, cond_true]
                                  all_goals
                                    cases hq_9 : A[y_3017]? with
                                    | none =>
                                      try dsimp only [cond_false, cond_true]
                                      all_goals rfl
                                    | some y_3018 =>
                                      try dsimp only [cond_false, cond_true]
                                      all_goals
                                        cases y_3018 with
                                        | inl y_3019 =>
                                          try dsimp only [cond_false, cond_true]
                                          all_goals rfl
                                        | inr y_3020 =>
                                          try dsimp only [cond_false, cond_true]
                                          all_goals
                                            cases y_3020 with
                                            | mk y_3021 y_3022 =>
                                              try dsimp only [cond_false, cond_true]
                                              all_goals
                                                cases y_3022 with
                                                | inl y_3023 =>
                                                  try dsimp only [cond_false, cond_true]
                                                  all_goals
                                                    cases hq_13 : (Nat.beq y_3021 0) with
                                                    | false =>
                                                      try dsimp only [cond_false, cond_true]
                                                      all_goals rfl
                                                    | true =>
                                                      try dsimp only [cond_false, cond_true]
                                                      all_goals
                                                        cases hq_14 : (findE tab fs y_3017 y_3011 pr) with
                                                        | none =>
                                                          try dsimp only [cond_false, cond_true]
                                                          all_goals rfl
                                                        | some y_3024 =>
                                                          try dsimp only [cond_false, cond_true]
                                                          all_goals
                                                            cases hq_15 : (idxR tab fs y_3011) with
                                                            | none =>
                                                              try dsimp only [cond_false, cond_true]
                                                              all_goals rfl
                                                            | some y_3025 =>
                                                              try dsimp only [cond_false, cond_true]
                                                              all_goals
                                                                cases y_3025 with
                                                                | mk y_3026 y_3027 =>
                                                                  try dsimp only [cond_false, cond_true]
                                                                  all_goals
                                                                    cases hq_17 : (Nat.blt y_3027 ((sgLen y_3023))) with
                                                                    | false =>
                                                                      try dsimp only [cond_false, cond_true]
                                                                      all_goals rfl
                                                                    | true =>
                                                                      try dsimp only [cond_false, cond_true]
                                                                      all_goals rfl
                                                | inr y_3028 =>
                                                  try dsimp only [cond_false, cond_true]
                                                  all_goals rfl
                            | inr y_3029 =>
                              try dsimp only [cond_false, cond_true]
                              all_goals rfl
                | true =>
                  try dsimp only [cond_false, cond_true]
                  all_goals rfl
        | inr y_3030 =>
          try dsimp only [cond_false, cond_true]
          all_goals rfl
noncomputable def st3g (scl : Option SL) (i : Instr) (n a b : Nat) (k : KK) (st : List AV) (lv : AL) (A : AH) (pr : List PD) (nx : Nat) (tab : Tb) (fs : List Ln) (ca cb : Nat) : Bool := match g3 scl i a b tab fs A st with
  | some (rest, r) => pushR nx tab fs r (fun nx tab fs v => k n (v :: rest) lv A pr nx tab fs ca cb)
  | none => false
noncomputable def st3l (scl : Option SL) (n a b : Nat) (k : KK) (st : List AV) (lv : AL) (A : AH) (pr : List PD) (nx : Nat) (tab : Tb) (fs : List Ln) (ca cb : Nat) : Bool := match scl with
  | none => (match prLd tab fs A pr st with
    | some (rest, r) => pushR nx tab fs r (fun nx tab fs v => k n (v :: rest) lv A pr nx tab fs ca cb)
    | none => st3g none .iaload n a b k st lv A pr nx tab fs ca cb)
  | some s => st3g (some s) .iaload n a b k st lv A pr nx tab fs ca cb
noncomputable def st3 (scl : Option SL) (i : Instr) (n a b : Nat) (k : KK) (st : List AV) (lv : AL) (A : AH) (pr : List PD) (nx : Nat) (tab : Tb) (fs : List Ln) (ca cb : Nat) : Bool := match i with
  | .aaload => aaL (fun st tab fs => k n st lv A pr nx tab fs ca cb) tab fs A st
  | .iaload => st3l scl n a b k st lv A pr nx tab fs ca cb
  | i => st3g scl i n a b k st lv A pr nx tab fs ca cb
noncomputable def st4 (ini : Bool) (o : Nat) (i : Instr) (n a b : Nat) (k : KK) (st : List AV) (lv : AL) (A : AH) (pr : List PD) (nx : Nat) (tab : Tb) (fs : List Ln) (ca cb : Nat) : Bool := match g4 ini o i a b tab fs A pr st with
  | some (rest, A', pr') => k n rest lv A' pr' nx tab fs ca cb
  | none => false
noncomputable def step (scl : Option SL) (ini : Bool) (o nL : Nat) (env : List Ct) (fin : FN) (k : KK) (e : XE) (pc : Nat) (st : List AV) (lv : AL) (A : AH) (pr : List PD) (nx : Nat) (tab : Tb) (fs : List Ln) (ca cb : Nat) : Bool := match e with
  | (i, len, g, a, b, _) => match g with
    | 0 => st0 i (Nat.add pc len) a k st lv A pr nx tab fs ca cb
    | 1 => st1 i (Nat.add pc len) nL k st lv A pr nx tab fs ca cb
    | 2 => g2 (fun t st tab fs => k t st lv A pr nx tab fs ca cb) i pc tab fs st
    | 3 => st3 scl i (Nat.add pc len) a b k st lv A pr nx tab fs ca cb
    | 4 => st4 ini o i (Nat.add pc len) a b k st lv A pr nx tab fs ca cb
    | 5 => match g5 i a tab fs A st with
      | some (rest, A', dc, ds) => bif prB A.length pr then k (Nat.add pc len) rest lv A' pr nx tab fs (Nat.add ca dc) (Nat.add cb ds) else false
      | none => false
    | 6 => g6 fin i st A pr tab fs ca cb
    | 7 => g7 env k i a b pc st lv A pr nx tab fs ca cb
    | _ => false
/-- a hint: at a place, the states that together cover this one (the machine's state stays) -/
abbrev HR : Type := AH × List PD × Nat × Tb × List Ln
abbrev HF : Type := Nat → AL → AH → List PD → Nat → Tb → List Ln → Option (List HR)
/-- a macro: many steps of the machine at once -/
abbrev MR : Type := Nat × List AV × AL × AH × List PD × Nat × Tb × List Ln
abbrev MC : Type := Nat → List (List (Option XE)) → Nat → List AV → AL → AH → List PD → Nat → Tb → List Ln → Option MR
/-- hints, macros, where points are (a bit a place), where hints and macros are, how many symbols stay the entry's -/
abbrev HN : Type := HF × MC × Nat × Nat × Nat
noncomputable def isPt (m pc : Nat) : Bool :=
  (Nat.beq (Nat.land (Nat.shiftRight m pc) (nat_lit 1)) (nat_lit 1))
theorem isPt_def (m pc : Nat) : isPt m pc = Nat.beq (Nat.land (Nat.shiftRight m pc) 1) 1 := by
  show (Nat.beq (Nat.land (Nat.shiftRight m pc) (nat_lit 1)) (nat_lit 1)) = _
  all_goals rfl
noncomputable def noF : HF := fun _ _ _ _ _ _ _ => none
noncomputable def noM : MC := fun _ _ _ _ _ _ _ _ _ _ => none
noncomputable def noH : HN := (noF, noM, 0, 0, 0)
noncomputable def macAt (scl : Option SL) (mc : MC) (nL : Nat) (tb : List (List (Option XE))) (pc : Nat) (st : List AV) (lv : AL) (A : AH) (pr : List PD) (nx : Nat) (tab : Tb) (fs : List Ln) : Option MR := match scl with
  | none => mc nL tb pc st lv A pr nx tab fs
  | some _ => none
noncomputable def macG_a0 :=
  fun (scl : Option SL) (mc : MC) (nL : Nat) (tb : List (List (Option XE))) (pc : Nat) (st : List AV) (lv : AL) (A : AH) (pr : List PD) (nx : Nat) (tab : Tb) (fs : List Ln) => ((macAt scl mc nL tb pc st lv A pr nx tab fs) : Option MR)
noncomputable def macG (m : Nat) (scl : Option SL) (mc : MC) (nL : Nat) (tb : List (List (Option XE))) (pc : Nat) (st : List AV) (lv : AL) (A : AH) (pr : List PD) (nx : Nat) (tab : Tb) (fs : List Ln) : Option MR :=
  (Bool.rec (motive := fun _ => Option MR) none (macG_a0 scl mc nL tb pc st lv A pr nx tab fs) (isPt m pc))
theorem macG_def (m : Nat) (scl : Option SL) (mc : MC) (nL : Nat) (tb : List (List (Option XE))) (pc : Nat) (st : List AV) (lv : AL) (A : AH) (pr : List PD) (nx : Nat) (tab : Tb) (fs : List Ln) : macG m scl mc nL tb pc st lv A pr nx tab fs = bif isPt m pc then macAt scl mc nL tb pc st lv A pr nx tab fs else none := by
  show (Bool.rec (motive := fun _ => Option MR) none (macAt scl mc nL tb pc st lv A pr nx tab fs) (isPt m pc)) = _
  try simp only [iAddQ_eq, iMulQ_eq, iNegQ_eq, lenQ_eq, nthQ_eq, setQ_eq, appQ_eq, mapQ_eq, allQ_eq, anyQ_eq, dropQ_eq, takeQ_eq, revQ_eq, getDQ_eq, optLQ_eq, brecC]
  all_goals
    cases hq_1 : (isPt m pc) with
    | false =>
      try dsimp only [cond_false, cond_true]
      all_goals rfl
    | true =>
      try dsimp only [cond_false, cond_true]
      all_goals rfl
noncomputable def hinG (m : Nat) (f : HF) (pc : Nat) (lv : AL) (A : AH) (pr : List PD) (nx : Nat) (tab : Tb) (fs : List Ln) : Option (List HR) :=
  (Bool.rec (motive := fun _ => Option (List HR)) none (f pc lv A pr nx tab fs) (isPt m pc))
theorem hinG_def (m : Nat) (f : HF) (pc : Nat) (lv : AL) (A : AH) (pr : List PD) (nx : Nat) (tab : Tb) (fs : List Ln) : hinG m f pc lv A pr nx tab fs = bif isPt m pc then f pc lv A pr nx tab fs else none := by
  show (Bool.rec (motive := fun _ => Option (List HR)) none (f pc lv A pr nx tab fs) (isPt m pc)) = _
  try simp only [iAddQ_eq, iMulQ_eq, iNegQ_eq, lenQ_eq, nthQ_eq, setQ_eq, appQ_eq, mapQ_eq, allQ_eq, anyQ_eq, dropQ_eq, takeQ_eq, revQ_eq, getDQ_eq, optLQ_eq, brecC]
  all_goals
    cases hq_1 : (isPt m pc) with
    | false =>
      try dsimp only [cond_false, cond_true]
      all_goals rfl
    | true =>
      try dsimp only [cond_false, cond_true]
      all_goals rfl
noncomputable def hAll_a0 :=
  fun (ih : Bool) (k : AH → List PD → Nat → Tb → List Ln → Bool) (A_3031 : AH) (pr_3033 : List PD) (nx_3035 : Nat) (tab_3037 : Tb) (fs_3038 : List Ln) => ((Bool.rec (motive := fun _ => Bool) false (ih) (k A_3031 pr_3033 nx_3035 tab_3037 fs_3038)) : Bool)
noncomputable def hAll (k : AH → List PD → Nat → Tb → List Ln → Bool) : List HR → Bool :=
  fun e_0 => List.rec (motive := fun _ => Bool) true (fun h_0 t_0 ih => (Prod.rec (motive := fun _ => Bool) (fun A_3031 x_3032 => (Prod.rec (motive := fun _ => Bool) (fun pr_3033 x_3034 => (Prod.rec (motive := fun _ => Bool) (fun nx_3035 x_3036 => (Prod.rec (motive := fun _ => Bool) (fun tab_3037 fs_3038 => (hAll_a0 ih k A_3031 pr_3033 nx_3035 tab_3037 fs_3038)) x_3036)) x_3034)) x_3032)) h_0)) e_0 
theorem hAll_def (k : AH → List PD → Nat → Tb → List Ln → Bool) (e_0 : List HR) : hAll k e_0 = (match e_0 with
  | [] => true
  | (A, pr, nx, tab, fs) :: r => bif k A pr nx tab fs then hAll k r else false) := by
  cases e_0 with
  | nil =>
    show true = _
    try simp only [iAddQ_eq, iMulQ_eq, iNegQ_eq, lenQ_eq, nthQ_eq, setQ_eq, appQ_eq, mapQ_eq, allQ_eq, anyQ_eq, dropQ_eq, takeQ_eq, revQ_eq, getDQ_eq, optLQ_eq, brecC]
    all_goals rfl
  | cons h_0 t_0 =>
    show (Prod.rec (motive := fun _ => Bool) (fun A_3039 x_3040 => (Prod.rec (motive := fun _ => Bool) (fun pr_3041 x_3042 => (Prod.rec (motive := fun _ => Bool) (fun nx_3043 x_3044 => (Prod.rec (motive := fun _ => Bool) (fun tab_3045 fs_3046 => (Bool.rec (motive := fun _ => Bool) false (hAll k t_0) (k A_3039 pr_3041 nx_3043 tab_3045 fs_3046))) x_3044)) x_3042)) x_3040)) h_0) = _
    try simp only [iAddQ_eq, iMulQ_eq, iNegQ_eq, lenQ_eq, nthQ_eq, setQ_eq, appQ_eq, mapQ_eq, allQ_eq, anyQ_eq, dropQ_eq, takeQ_eq, revQ_eq, getDQ_eq, optLQ_eq, brecC]
    all_goals
      cases h_0 with
      | mk y_3047 y_3048 =>
        try dsimp only [cond_false, cond_true]
        all_goals
          cases y_3048 with
          | mk y_3049 y_3050 =>
            try dsimp only [cond_false, cond_true]
            all_goals
              cases y_3050 with
              | mk y_3051 y_3052 =>
                try dsimp only [cond_false, cond_true]
                all_goals
                  cases y_3052 with
                  | mk y_3053 y_3054 =>
                    try dsimp only [cond_false, cond_true]
                    all_goals
                      cases hq_5 : (k y_3047 y_3049 y_3051 y_3053 y_3054) with
                      | false =>
                        try dsimp only [cond_false, cond_true]
                        all_goals rfl
                      | true =>
                        try dsimp only [cond_false, cond_true]
                        all_goals rfl
noncomputable def go (scl : Option SL) (ini : Bool) (o nL : Nat) (tb : List (List (Option XE))) (env : List Ct) (pts : List PE) (G : List Ln) (rk : Option Ln) (fin : FN) (hn : HN) : Nat → Bool → KK
  | 0, _ => fun _ _ _ _ _ _ _ _ _ _ => false
  | n + 1, first => fun pc st lv A pr nx tab fs ca cb => bif (bif first then false else isPt hn.2.2.1 pc) then anyPt hn.2.2.2.2 G rk pc st lv A pr tab fs ca cb pts else match macG hn.2.2.2.1 scl hn.2.1 nL tb pc st lv A pr nx tab fs with
    | some (pc', st', lv', A', pr', nx', tab', fs') => go scl ini o nL tb env pts G rk fin hn n false pc' st' lv' A' pr' nx' tab' fs' ca cb
    | none => match tbGet tb pc with
      | some e => (match hinG hn.2.2.2.1 hn.1 pc lv A pr nx tab fs with
        | none => step scl ini o nL env fin (go scl ini o nL tb env pts G rk fin hn n false) e pc st lv A pr nx tab fs ca cb
        | some L => hAll (fun A pr nx tab fs => step scl ini o nL env fin (go scl ini o nL tb env pts G rk fin hn n false) e pc st lv A pr nx tab fs ca cb) L)
      | none => false
