/-! ===== abstract values; what an operation makes: an expression, or a new symbol with bounds ===== -/
abbrev AV : Type := (Bool × Ln) ⊕ (Option Nat ⊕ (Ln × Ln))
noncomputable def avI (e : Ln) : AV := .inl (false, e)
noncomputable def avJ (e : Ln) : AV := .inl (true, e)
noncomputable def cmpZ (a b : Int) : Int32 := if b < a then 1 else if a = b then 0 else -1
noncomputable def vrel (ρ : Nat → Int) (v : Value) (a : AV) : Prop := match a with
  | .inl (false, e) => ∃ x : Int32, v = .int x ∧ x.toInt = ev ρ e
  | .inl (true, e) => ∃ x : Int64, v = .long x ∧ x.toInt = ev ρ e
  | .inr (.inl (some i)) => v = .ref i
  | .inr (.inl none) => v = .null
  | .inr (.inr (p, q)) => v = .int (cmpZ (ev ρ p) (ev ρ q))
abbrev OR : Type := Ln ⊕ (Int × Int × Option Ln)
noncomputable def orOk (ρ : Nat → Int) (z : Int) (r : OR) : Prop := match r with
  | .inl e => z = ev ρ e
  | .inr (lo, hi, f) => (lo ≤ z ∧ z ≤ hi) ∧ ∀ e, f = some e → z ≤ ev ρ e
noncomputable def lo32 : Int := .negSucc 2147483647
noncomputable def hi32 : Int := .ofNat 2147483647
noncomputable def lo64 : Int := .negSucc 9223372036854775807
noncomputable def hi64 : Int := .ofNat 9223372036854775807
noncomputable def full32 : OR := .inr (lo32, hi32, none)
noncomputable def full64 : OR := .inr (lo64, hi64, none)
theorem in32 (x : Int32) : lo32 ≤ x.toInt ∧ x.toInt ≤ hi32 := by
  have h1 := Int32.le_toInt x
  have h2 := Int32.toInt_lt x
  have e1 : lo32 = -2147483648 := rfl
  have e2 : hi32 = 2147483647 := rfl
  omega
theorem in64 (x : Int64) : lo64 ≤ x.toInt ∧ x.toInt ≤ hi64 := by
  have h1 := Int64.le_toInt x
  have h2 := Int64.toInt_lt x
  have e1 : lo64 = -9223372036854775808 := rfl
  have e2 : hi64 = 9223372036854775807 := rfl
  omega
theorem full32_ok (ρ : Nat → Int) (x : Int32) : orOk ρ x.toInt full32 := ⟨in32 x, fun _ h => by cases h⟩
theorem full64_ok (ρ : Nat → Int) (x : Int64) : orOk ρ x.toInt full64 := ⟨in64 x, fun _ h => by cases h⟩
theorem bmod32 {z : Int} (h1 : lo32 ≤ z) (h2 : z ≤ hi32) : z.bmod (2 ^ 32) = z := by
  have e1 : lo32 = -2147483648 := rfl
  have e2 : hi32 = 2147483647 := rfl
  exact Int.bmod_eq_of_le_mul_two (by show -(4294967296 : Int) ≤ _; omega) (by show _ < (4294967296 : Int); omega)
theorem bmod64 {z : Int} (h1 : lo64 ≤ z) (h2 : z ≤ hi64) : z.bmod (2 ^ 64) = z := by
  have e1 : lo64 = -9223372036854775808 := rfl
  have e2 : hi64 = 9223372036854775807 := rfl
  exact Int.bmod_eq_of_le_mul_two (by show -(18446744073709551616 : Int) ≤ _; omega) (by show _ < (18446744073709551616 : Int); omega)
noncomputable def inR0_a0 :=
  fun (b_250 : Int) (hi : Int) (lo : Int) (a_249 : Int) => ((Bool.rec (motive := fun _ => Bool) false (leI b_250 hi) (leI lo a_249)) : Bool)
noncomputable def inR0 (tab : Tb) (lo hi : Int) (e : Ln) : Bool :=
  (Option.rec (motive := fun _ => Bool) false (fun a_249 => (Option.rec (motive := fun _ => Bool) false (fun b_250 => (inR0_a0 b_250 hi lo a_249)) (ub tab e))) (lb tab e))
theorem inR0_def (tab : Tb) (lo hi : Int) (e : Ln) : inR0 tab lo hi e = (match lb tab e, ub tab e with
  | some a, some b => bif leI lo a then leI b hi else false
  | _, _ => false) := by
  show (Option.rec (motive := fun _ => Bool) false (fun a_247 => (Option.rec (motive := fun _ => Bool) false (fun b_248 => (Bool.rec (motive := fun _ => Bool) false (leI b_248 hi) (leI lo a_247))) (ub tab e))) (lb tab e)) = _
  try simp only [iAddQ_eq, iMulQ_eq, iNegQ_eq, lenQ_eq, nthQ_eq, setQ_eq, appQ_eq, mapQ_eq, allQ_eq, anyQ_eq, dropQ_eq, takeQ_eq, revQ_eq, getDQ_eq, optLQ_eq, brecC]
  all_goals
    cases hq_1 : (lb tab e) with
    | none =>
      try dsimp only [cond_false, cond_true]
      all_goals rfl
    | some y_251 =>
      try dsimp only [cond_false, cond_true]
      all_goals
        cases hq_2 : (ub tab e) with
        | none =>
          try dsimp only [cond_false, cond_true]
          all_goals rfl
        | some y_252 =>
          try dsimp only [cond_false, cond_true]
          all_goals
            cases hq_3 : (leI lo y_251) with
            | false =>
              try dsimp only [cond_false, cond_true]
              all_goals rfl
            | true =>
              try dsimp only [cond_false, cond_true]
              all_goals rfl
/-- a symbol and a number: by its bounds -/
noncomputable def inR1_a0 :=
  fun (c : Int) (b_258 : Int) (hi : Int) (lo : Int) (a_257 : Int) => ((Bool.rec (motive := fun _ => Bool) false (leI (iAddQ c b_258) hi) (leI lo (iAddQ c a_257))) : Bool)
noncomputable def inR1 (tab : Tb) (lo hi c : Int) (s : Nat) : Bool :=
  (Option.rec (motive := fun _ => Bool) false (fun x_256 => (Prod.rec (motive := fun _ => Bool) (fun a_257 b_258 => (inR1_a0 c b_258 hi lo a_257)) x_256)) (tbLk s tab))
theorem inR1_def (tab : Tb) (lo hi c : Int) (s : Nat) : inR1 tab lo hi c s = (match tbLk s tab with
  | some (a, b) => bif leI lo (Int.add c a) then leI (Int.add c b) hi else false
  | none => false) := by
  show (Option.rec (motive := fun _ => Bool) false (fun x_253 => (Prod.rec (motive := fun _ => Bool) (fun a_254 b_255 => (Bool.rec (motive := fun _ => Bool) false (leI (iAddQ c b_255) hi) (leI lo (iAddQ c a_254)))) x_253)) (tbLk s tab)) = _
  try simp only [iAddQ_eq, iMulQ_eq, iNegQ_eq, lenQ_eq, nthQ_eq, setQ_eq, appQ_eq, mapQ_eq, allQ_eq, anyQ_eq, dropQ_eq, takeQ_eq, revQ_eq, getDQ_eq, optLQ_eq, brecC]
  all_goals
    cases hq_1 : (tbLk s tab) with
    | none =>
      try dsimp only [cond_false, cond_true]
      all_goals rfl
    | some y_259 =>
      try dsimp only [cond_false, cond_true]
      all_goals
        cases y_259 with
        | mk y_260 y_261 =>
          try dsimp only [cond_false, cond_true]
          all_goals
            cases hq_3 : (leI lo ((Int.add c y_260))) with
            | false =>
              try dsimp only [cond_false, cond_true]
              all_goals rfl
            | true =>
              try dsimp only [cond_false, cond_true]
              all_goals rfl
noncomputable def isS1_a0 :=
  fun (k_271 : Int) (e : Ln) => ((Bool.rec (motive := fun _ => Bool) false (eqI k_271 (.ofNat (nat_lit 1))) (isZ e.1)) : Bool)
noncomputable def isS1 (e : Ln) : Bool :=
  (List.rec (motive := fun _ => Bool) false (fun x_268 x_269 _ => (Prod.rec (motive := fun _ => Bool) (fun x_270 k_271 => (List.rec (motive := fun _ => Bool) (isS1_a0 k_271 e) (fun x_272 x_273 _ => false) x_269)) x_268)) e.2)
theorem isS1_def (e : Ln) : isS1 e = (match e.2 with
  | [(_, k)] => bif isZ e.1 then eqI k 1 else false
  | _ => false) := by
  show (List.rec (motive := fun _ => Bool) false (fun x_262 x_263 _ => (Prod.rec (motive := fun _ => Bool) (fun x_264 k_265 => (List.rec (motive := fun _ => Bool) (Bool.rec (motive := fun _ => Bool) false (eqI k_265 (.ofNat (nat_lit 1))) (isZ e.1)) (fun x_266 x_267 _ => false) x_263)) x_262)) e.2) = _
  try simp only [iAddQ_eq, iMulQ_eq, iNegQ_eq, lenQ_eq, nthQ_eq, setQ_eq, appQ_eq, mapQ_eq, allQ_eq, anyQ_eq, dropQ_eq, takeQ_eq, revQ_eq, getDQ_eq, optLQ_eq, brecC]
  all_goals
    cases hq_1 : e.2 with
    | nil =>
      try dsimp only [cond_false, cond_true]
      all_goals rfl
    | cons y_274 y_275 =>
      try dsimp only [cond_false, cond_true]
      all_goals
        cases y_274 with
        | mk y_276 y_277 =>
          try dsimp only [cond_false, cond_true]
          all_goals
            cases y_275 with
            | nil =>
              try dsimp only [cond_false, cond_true]
              all_goals
                cases hq_4 : (isZ e.1) with
                | false =>
                  try dsimp only [cond_false, cond_true]
                  all_goals rfl
                | true =>
                  try dsimp only [cond_false, cond_true]
                  all_goals rfl
            | cons y_278 y_279 =>
              try dsimp only [cond_false, cond_true]
              all_goals rfl
noncomputable def fstS (e : Ln) : Nat :=
  (List.rec (motive := fun _ => Nat) (nat_lit 0) (fun x_284 x_285 _ => (Prod.rec (motive := fun _ => Nat) (fun s_286 x_287 => s_286) x_284)) e.2)
theorem fstS_def (e : Ln) : fstS e = (match e.2 with
  | (s, _) :: _ => s
  | [] => 0) := by
  show (List.rec (motive := fun _ => Nat) (nat_lit 0) (fun x_280 x_281 _ => (Prod.rec (motive := fun _ => Nat) (fun s_282 x_283 => s_282) x_280)) e.2) = _
  all_goals
    cases hq_1 : e.2 with
    | nil =>
      try dsimp only [cond_false, cond_true]
      all_goals rfl
    | cons y_288 y_289 =>
      try dsimp only [cond_false, cond_true]
      all_goals
        cases y_288 with
        | mk y_290 y_291 =>
          try dsimp only [cond_false, cond_true]
          all_goals rfl
noncomputable def inR_a0 :=
  fun (e : Ln) (hi : Int) (lo : Int) => ((Bool.rec (motive := fun _ => Bool) false (leI e.1 hi) (leI lo e.1)) : Bool)
noncomputable def inR_a1 :=
  fun (tab : Tb) (lo : Int) (hi : Int) (e : Ln) (s_300 : Nat) (k_301 : Int) => ((Bool.rec (motive := fun _ => Bool) (inR0 tab lo hi e) (inR1 tab lo hi e.1 s_300) (eqI k_301 (.ofNat (nat_lit 1)))) : Bool)
noncomputable def inR (tab : Tb) (lo hi : Int) (e : Ln) : Bool :=
  (List.rec (motive := fun _ => Bool) (inR_a0 e hi lo) (fun x_298 x_299 _ => (Prod.rec (motive := fun _ => Bool) (fun s_300 k_301 => (List.rec (motive := fun _ => Bool) (inR_a1 tab lo hi e s_300 k_301) (fun x_302 x_303 _ => (inR0 tab lo hi e)) x_299)) x_298)) e.2)
theorem inR_def (tab : Tb) (lo hi : Int) (e : Ln) : inR tab lo hi e = (match e.2 with
  | [] => bif leI lo e.1 then leI e.1 hi else false
  | [(s, k)] => bif eqI k 1 then inR1 tab lo hi e.1 s else inR0 tab lo hi e
  | _ => inR0 tab lo hi e) := by
  show (List.rec (motive := fun _ => Bool) (Bool.rec (motive := fun _ => Bool) false (leI e.1 hi) (leI lo e.1)) (fun x_292 x_293 _ => (Prod.rec (motive := fun _ => Bool) (fun s_294 k_295 => (List.rec (motive := fun _ => Bool) (Bool.rec (motive := fun _ => Bool) (inR0 tab lo hi e) (inR1 tab lo hi e.1 s_294) (eqI k_295 (.ofNat (nat_lit 1)))) (fun x_296 x_297 _ => (inR0 tab lo hi e)) x_293)) x_292)) e.2) = _
  try simp only [iAddQ_eq, iMulQ_eq, iNegQ_eq, lenQ_eq, nthQ_eq, setQ_eq, appQ_eq, mapQ_eq, allQ_eq, anyQ_eq, dropQ_eq, takeQ_eq, revQ_eq, getDQ_eq, optLQ_eq, brecC]
  all_goals
    cases hq_1 : e.2 with
    | nil =>
      try dsimp only [cond_false, cond_true]
      all_goals
        cases hq_2 : (leI lo e.1) with
        | false =>
          try dsimp only [cond_false, cond_true]
          all_goals rfl
        | true =>
          try dsimp only [cond_false, cond_true]
          all_goals rfl
    | cons y_304 y_305 =>
      try dsimp only [cond_false, cond_true]
      all_goals
        cases y_304 with
        | mk y_306 y_307 =>
          try dsimp only [cond_false, cond_true]
          all_goals
            cases y_305 with
            | nil =>
              try dsimp only [cond_false, cond_true]
              all_goals
                cases hq_5 : (eqI y_307 1) with
                | false =>
                  try dsimp only [cond_false, cond_true]
                  all_goals rfl
                | true =>
                  try dsimp only [cond_false, cond_true]
                  all_goals rfl
            | cons y_308 y_309 =>
              try dsimp only [cond_false, cond_true]
              all_goals rfl
theorem inR0_ok {ρ : Nat → Int} {tab : Tb} (h : tOk ρ tab) {lo hi : Int} {e : Ln} (hb : inR0 tab lo hi e = true) : lo ≤ ev ρ e ∧ ev ρ e ≤ hi := by
  rw [inR0_def] at hb
  split at hb
  · rename_i a b h1 h2
    cases h3 : leI lo a with
    | false => rw [h3] at hb; cases hb
    | true =>
      rw [h3] at hb
      exact ⟨Int.le_trans (leI_le h3) (lb_ok h h1), Int.le_trans (ub_ok h h2) (leI_le hb)⟩
  · cases hb
theorem isS1_ev {ρ : Nat → Int} {e : Ln} (h : isS1 e = true) : ev ρ e = ρ (fstS e) := by
  obtain ⟨c, ts⟩ := e
  rw [isS1_def] at h
  try dsimp only at h
  split at h
  · rename_i s k
    cases h1 : isZ c with
    | false => rw [h1] at h; cases h
    | true =>
      rw [h1, cond_true] at h
      have e1 := isZ_eq h1
      have e2 := eqI_eq h
      subst e1
      subst e2
      show 0 + (1 * ρ s + 0) = ρ s
      omega
  · cases h
theorem inR_ok {ρ : Nat → Int} {tab : Tb} (h : tOk ρ tab) {lo hi : Int} {e : Ln} (hb : inR tab lo hi e = true) : lo ≤ ev ρ e ∧ ev ρ e ≤ hi := by
  obtain ⟨c, ts⟩ := e
  rw [inR_def] at hb
  try dsimp only at hb
  split at hb
  · cases h1 : leI lo c with
    | false => rw [h1] at hb; cases hb
    | true =>
      rw [h1, cond_true] at hb
      have e1 : ev ρ (c, []) = c := ev_k ρ c
      rw [e1]
      exact ⟨leI_le h1, leI_le hb⟩
  · rename_i s k
    cases h0 : eqI k 1 with
    | false => rw [h0] at hb; exact inR0_ok h hb
    | true =>
      rw [h0, cond_true] at hb
      have ek := eqI_eq h0
      subst ek
      have hev : ev ρ (c, [(s, 1)]) = c + ρ s := by
        show c + (1 * ρ s + 0) = c + ρ s
        omega
      rw [hev]
      rw [inR1_def] at hb
      split at hb
      · rename_i a b h1
        have h2 := tbLk_ok h h1
        try dsimp only at h2
        cases h3 : leI lo (Int.add c a) with
        | false => rw [h3] at hb; cases hb
        | true =>
          rw [h3, cond_true] at hb
          have h4 := leI_le h3
          have h5 := leI_le hb
          have h4' : lo ≤ c + a := h4
          have h5' : c + b ≤ hi := h5
          omega
      · cases hb
  · exact inR0_ok h hb
noncomputable def fit32_a0 :=
  fun (e : Ln) => ((.inl (kL (Int.bmod e.1 (nat_lit 4294967296)))) : OR)
noncomputable def fit32 (tab : Tb) (e : Ln) : OR :=
  (Bool.rec (motive := fun _ => OR) (List.rec (motive := fun _ => OR) (fit32_a0 e) (fun x_312 x_313 _ => full32) e.2) (.inl e) (inR tab lo32 hi32 e))
theorem fit32_def (tab : Tb) (e : Ln) : fit32 tab e = (bif inR tab lo32 hi32 e then .inl e else match e.2 with
  | [] => .inl (kL (Int.bmod e.1 4294967296))
  | _ => full32) := by
  show (Bool.rec (motive := fun _ => OR) (List.rec (motive := fun _ => OR) (.inl (kL (Int.bmod e.1 (nat_lit 4294967296)))) (fun x_310 x_311 _ => full32) e.2) (.inl e) (inR tab lo32 hi32 e)) = _
  try simp only [iAddQ_eq, iMulQ_eq, iNegQ_eq, lenQ_eq, nthQ_eq, setQ_eq, appQ_eq, mapQ_eq, allQ_eq, anyQ_eq, dropQ_eq, takeQ_eq, revQ_eq, getDQ_eq, optLQ_eq, brecC]
  all_goals
    cases hq_1 : (inR tab lo32 hi32 e) with
    | false =>
      try dsimp only [cond_false, cond_true]
      all_goals
        cases hq_2 : e.2 with
        | nil =>
          try dsimp only [cond_false, cond_true]
          all_goals rfl
        | cons y_314 y_315 =>
          try dsimp only [cond_false, cond_true]
          all_goals rfl
    | true =>
      try dsimp only [cond_false, cond_true]
      all_goals rfl
noncomputable def fit64_a0 :=
  fun (e : Ln) => ((.inl (kL (Int.bmod e.1 (nat_lit 18446744073709551616)))) : OR)
noncomputable def fit64 (tab : Tb) (e : Ln) : OR :=
  (Bool.rec (motive := fun _ => OR) (List.rec (motive := fun _ => OR) (fit64_a0 e) (fun x_318 x_319 _ => full64) e.2) (.inl e) (inR tab lo64 hi64 e))
theorem fit64_def (tab : Tb) (e : Ln) : fit64 tab e = (bif inR tab lo64 hi64 e then .inl e else match e.2 with
  | [] => .inl (kL (Int.bmod e.1 18446744073709551616))
  | _ => full64) := by
  show (Bool.rec (motive := fun _ => OR) (List.rec (motive := fun _ => OR) (.inl (kL (Int.bmod e.1 (nat_lit 18446744073709551616)))) (fun x_316 x_317 _ => full64) e.2) (.inl e) (inR tab lo64 hi64 e)) = _
  try simp only [iAddQ_eq, iMulQ_eq, iNegQ_eq, lenQ_eq, nthQ_eq, setQ_eq, appQ_eq, mapQ_eq, allQ_eq, anyQ_eq, dropQ_eq, takeQ_eq, revQ_eq, getDQ_eq, optLQ_eq, brecC]
  all_goals
    cases hq_1 : (inR tab lo64 hi64 e) with
    | false =>
      try dsimp only [cond_false, cond_true]
      all_goals
        cases hq_2 : e.2 with
        | nil =>
          try dsimp only [cond_false, cond_true]
          all_goals rfl
        | cons y_320 y_321 =>
          try dsimp only [cond_false, cond_true]
          all_goals rfl
    | true =>
      try dsimp only [cond_false, cond_true]
      all_goals rfl
theorem fit32_ok {ρ : Nat → Int} {tab : Tb} (h : tOk ρ tab) {e : Ln} {x : Int32} (hx : x.toInt = (ev ρ e).bmod (2 ^ 32)) : orOk ρ x.toInt (fit32 tab e) := by
  rw [fit32_def]
  cases h1 : inR tab lo32 hi32 e with
  | false =>
    obtain ⟨c, ts⟩ := e
    cases ts with
    | nil =>
      show x.toInt = ev ρ (kL (c.bmod 4294967296))
      rw [hx, ev_k]
      exact congrArg (fun z => Int.bmod z 4294967296) (ev_k ρ c)
    | cons q r => exact full32_ok ρ x
  | true =>
    have h2 := inR_ok h h1
    show x.toInt = ev ρ e
    rw [hx, bmod32 h2.1 h2.2]
theorem fit64_ok {ρ : Nat → Int} {tab : Tb} (h : tOk ρ tab) {e : Ln} {x : Int64} (hx : x.toInt = (ev ρ e).bmod (2 ^ 64)) : orOk ρ x.toInt (fit64 tab e) := by
  rw [fit64_def]
  cases h1 : inR tab lo64 hi64 e with
  | false =>
    obtain ⟨c, ts⟩ := e
    cases ts with
    | nil =>
      show x.toInt = ev ρ (kL (c.bmod 18446744073709551616))
      rw [hx, ev_k]
      exact congrArg (fun z => Int.bmod z 18446744073709551616) (ev_k ρ c)
    | cons q r => exact full64_ok ρ x
  | true =>
    have h2 := inR_ok h h1
    show x.toInt = ev ρ e
    rw [hx, bmod64 h2.1 h2.2]
noncomputable def cst_a0 :=
  fun (a_328 : Int) (b_329 : Int) => ((Bool.rec (motive := fun _ => Option Int) none (some a_328) (eqI a_328 b_329)) : Option Int)
noncomputable def cst (tab : Tb) (e : Ln) : Option Int :=
  (List.rec (motive := fun _ => Option Int) (some e.1) (fun x_326 x_327 _ => (Option.rec (motive := fun _ => Option Int) none (fun a_328 => (Option.rec (motive := fun _ => Option Int) none (fun b_329 => (cst_a0 a_328 b_329)) (ub tab e))) (lb tab e))) e.2)
theorem cst_def (tab : Tb) (e : Ln) : cst tab e = (match e.2 with
  | [] => some e.1
  | _ => match lb tab e, ub tab e with
    | some a, some b => bif eqI a b then some a else none
    | _, _ => none) := by
  show (List.rec (motive := fun _ => Option Int) (some e.1) (fun x_322 x_323 _ => (Option.rec (motive := fun _ => Option Int) none (fun a_324 => (Option.rec (motive := fun _ => Option Int) none (fun b_325 => (Bool.rec (motive := fun _ => Option Int) none (some a_324) (eqI a_324 b_325))) (ub tab e))) (lb tab e))) e.2) = _
  try simp only [iAddQ_eq, iMulQ_eq, iNegQ_eq, lenQ_eq, nthQ_eq, setQ_eq, appQ_eq, mapQ_eq, allQ_eq, anyQ_eq, dropQ_eq, takeQ_eq, revQ_eq, getDQ_eq, optLQ_eq, brecC]
  all_goals
    cases hq_1 : e.2 with
    | nil =>
      try dsimp only [cond_false, cond_true]
      all_goals rfl
    | cons y_330 y_331 =>
      try dsimp only [cond_false, cond_true]
      all_goals
        cases hq_2 : (lb tab e) with
        | none =>
          try dsimp only [cond_false, cond_true]
          all_goals rfl
        | some y_332 =>
          try dsimp only [cond_false, cond_true]
          all_goals
            cases hq_3 : (ub tab e) with
            | none =>
              try dsimp only [cond_false, cond_true]
              all_goals rfl
            | some y_333 =>
              try dsimp only [cond_false, cond_true]
              all_goals
                cases hq_4 : (eqI y_332 y_333) with
                | false =>
                  try dsimp only [cond_false, cond_true]
                  all_goals rfl
                | true =>
                  try dsimp only [cond_false, cond_true]
                  all_goals rfl
theorem cst_ok {ρ : Nat → Int} {tab : Tb} (h : tOk ρ tab) {e : Ln} {c : Int} (hc : cst tab e = some c) : ev ρ e = c := by
  obtain ⟨e1, e2⟩ := e
  rw [cst_def] at hc
  split at hc
  · rename_i h1
    try dsimp only at h1 hc
    subst h1
    cases hc
    exact ev_k ρ c
  · split at hc
    · rename_i a b h1 h2
      cases h3 : eqI a b with
      | false => rw [h3] at hc; cases hc
      | true =>
        rw [h3] at hc
        cases hc
        have := eqI_eq h3
        subst this
        have := lb_ok h h1
        have := ub_ok h h2
        omega
    · cases hc
noncomputable def ex2 (tab : Tb) (f : Int32 → Int32 → Int32) (a b : Ln) (g : OR) : OR := match cst tab a, cst tab b with
  | some x, some y => .inl (kL (f (Int32.ofInt x) (Int32.ofInt y)).toInt)
  | _, _ => g
theorem ofInt32 (x : Int32) : Int32.ofInt x.toInt = x := Int32.ofInt_toInt x
theorem ofInt64 (x : Int64) : Int64.ofInt x.toInt = x := Int64.ofInt_toInt x
theorem ex2_ok {ρ : Nat → Int} {tab : Tb} (h : tOk ρ tab) {f : Int32 → Int32 → Int32} {a b : Ln} {g : OR} {x y : Int32} (ha : x.toInt = ev ρ a) (hb : y.toInt = ev ρ b) (hg : orOk ρ (f x y).toInt g) : orOk ρ (f x y).toInt (ex2 tab f a b g) := by
  unfold ex2
  split
  · rename_i c d h1 h2
    have e1 := cst_ok h h1
    have e2 := cst_ok h h2
    rw [← ha] at e1
    rw [← hb] at e2
    subst e1
    subst e2
    show (f x y).toInt = ev ρ (kL _)
    rw [ev_k, ofInt32, ofInt32]
  · exact hg
noncomputable def aAdd (tab : Tb) (a b : Ln) : OR := fit32 tab (addL a b)
noncomputable def aSub (tab : Tb) (a b : Ln) : OR := fit32 tab (subL a b)
noncomputable def aMulE (tab : Tb) (a b : Ln) : Option Ln :=
  (Option.rec (motive := fun _ => Option Ln) (Option.rec (motive := fun _ => Option Ln) none (fun k_337 => (some (sclL k_337 a))) (cst tab b)) (fun k_336 => (some (sclL k_336 b))) (cst tab a))
theorem aMulE_def (tab : Tb) (a b : Ln) : aMulE tab a b = (match cst tab a with
  | some k => some (sclL k b)
  | none => match cst tab b with
    | some k => some (sclL k a)
    | none => none) := by
  show (Option.rec (motive := fun _ => Option Ln) (Option.rec (motive := fun _ => Option Ln) none (fun k_335 => (some (sclL k_335 a))) (cst tab b)) (fun k_334 => (some (sclL k_334 b))) (cst tab a)) = _
  all_goals
    cases hq_1 : (cst tab a) with
    | none =>
      try dsimp only [cond_false, cond_true]
      all_goals
        cases hq_2 : (cst tab b) with
        | none =>
          try dsimp only [cond_false, cond_true]
          all_goals rfl
        | some y_338 =>
          try dsimp only [cond_false, cond_true]
          all_goals rfl
    | some y_339 =>
      try dsimp only [cond_false, cond_true]
      all_goals rfl
theorem aMulE_ok {ρ : Nat → Int} {tab : Tb} (h : tOk ρ tab) {a b e : Ln} (he : aMulE tab a b = some e) : ev ρ e = ev ρ a * ev ρ b := by
  rw [aMulE_def] at he
  split at he
  · rename_i k h1
    cases he
    rw [ev_scl, cst_ok h h1]
  · split at he
    · rename_i k h1
      cases he
      rw [ev_scl, cst_ok h h1, Int.mul_comm]
    · cases he
noncomputable def aMul (tab : Tb) (a b : Ln) : OR :=
  (Option.rec (motive := fun _ => OR) full32 (fun e_341 => (fit32 tab e_341)) (aMulE tab a b))
theorem aMul_def (tab : Tb) (a b : Ln) : aMul tab a b = (match aMulE tab a b with
  | some e => fit32 tab e
  | none => full32) := by
  show (Option.rec (motive := fun _ => OR) full32 (fun e_340 => (fit32 tab e_340)) (aMulE tab a b)) = _
  all_goals
    cases hq_1 : (aMulE tab a b) with
    | none =>
      try dsimp only [cond_false, cond_true]
      all_goals rfl
    | some y_342 =>
      try dsimp only [cond_false, cond_true]
      all_goals rfl
theorem aAdd_ok {ρ : Nat → Int} {tab : Tb} (h : tOk ρ tab) {a b : Ln} {x y : Int32} (ha : x.toInt = ev ρ a) (hb : y.toInt = ev ρ b) : orOk ρ (x + y).toInt (aAdd tab a b) :=
  fit32_ok h (by rw [Int32.toInt_add, ev_add, ha, hb])
theorem aSub_ok {ρ : Nat → Int} {tab : Tb} (h : tOk ρ tab) {a b : Ln} {x y : Int32} (ha : x.toInt = ev ρ a) (hb : y.toInt = ev ρ b) : orOk ρ (x - y).toInt (aSub tab a b) :=
  fit32_ok h (by rw [Int32.toInt_sub, ev_sub, ha, hb])
theorem aMul_ok {ρ : Nat → Int} {tab : Tb} (h : tOk ρ tab) {a b : Ln} {x y : Int32} (ha : x.toInt = ev ρ a) (hb : y.toInt = ev ρ b) : orOk ρ (x * y).toInt (aMul tab a b) := by
  rw [aMul_def]
  split
  · rename_i e h1
    exact fit32_ok h (by rw [Int32.toInt_mul, aMulE_ok h h1, ha, hb])
  · exact full32_ok ρ _
noncomputable def aNeg (tab : Tb) (a : Ln) : OR := fit32 tab (sclL (.negSucc 0) a)
theorem aNeg_ok {ρ : Nat → Int} {tab : Tb} (h : tOk ρ tab) {a : Ln} {x : Int32} (ha : x.toInt = ev ρ a) : orOk ρ (-x).toInt (aNeg tab a) :=
  fit32_ok h (by
    rw [Int32.toInt_neg, ev_scl, ha]
    congr 1
    show _ = (-1) * ev ρ a
    omega)
theorem and_le {x m : Int32} (h : 0 ≤ m.toInt) : 0 ≤ (x &&& m).toInt ∧ (x &&& m).toInt ≤ m.toInt := by
  have e1 : (x &&& m).toInt = (x.toBitVec &&& m.toBitVec).toInt := rfl
  have e2 : m.toInt = m.toBitVec.toInt := rfl
  rw [e2] at h
  rw [e1, e2]
  have h1 : m.toBitVec.toNat < 2 ^ 31 := by
    rw [BitVec.toInt_eq_toNat_cond] at h
    have := m.toBitVec.isLt
    split at h <;> omega
  have h2 : (x.toBitVec &&& m.toBitVec).toNat ≤ m.toBitVec.toNat := by
    rw [BitVec.toNat_and]
    exact Nat.and_le_right
  rw [BitVec.toInt_eq_toNat_of_lt (by omega), BitVec.toInt_eq_toNat_of_lt (by omega)]
  omega
noncomputable def aMask_a0 :=
  fun (m : Int) => ((.inr ((.ofNat (nat_lit 0)), m, none)) : OR)
noncomputable def aMask (m : Int) : OR :=
  (Bool.rec (motive := fun _ => OR) full32 (aMask_a0 m) (leI (.ofNat (nat_lit 0)) m))
theorem aMask_def (m : Int) : aMask m = bif leI 0 m then .inr (.ofNat 0, m, none) else full32 := by
  show (Bool.rec (motive := fun _ => OR) full32 (.inr ((.ofNat (nat_lit 0)), m, none)) (leI (.ofNat (nat_lit 0)) m)) = _
  try simp only [iAddQ_eq, iMulQ_eq, iNegQ_eq, lenQ_eq, nthQ_eq, setQ_eq, appQ_eq, mapQ_eq, allQ_eq, anyQ_eq, dropQ_eq, takeQ_eq, revQ_eq, getDQ_eq, optLQ_eq, brecC]
  all_goals
    cases hq_1 : (leI 0 m) with
    | false =>
      try dsimp only [cond_false, cond_true]
      all_goals rfl
    | true =>
      try dsimp only [cond_false, cond_true]
      all_goals rfl
noncomputable def aAnd (tab : Tb) (a b : Ln) : OR := ex2 tab (fun x y => x &&& y) a b (match cst tab b with
  | some m => aMask m
  | none => match cst tab a with
    | some m => aMask m
    | none => full32)
theorem aMask_ok {ρ : Nat → Int} {x m : Int32} {c : Int} (h : m.toInt = c) : orOk ρ (x &&& m).toInt (aMask c) := by
  rw [aMask_def]
  cases h1 : leI 0 c with
  | false => exact full32_ok ρ _
  | true =>
    have h2 := leI_le h1
    subst h
    exact ⟨and_le h2, fun _ h => by cases h⟩
theorem aAnd_ok {ρ : Nat → Int} {tab : Tb} (h : tOk ρ tab) {a b : Ln} {x y : Int32} (ha : x.toInt = ev ρ a) (hb : y.toInt = ev ρ b) : orOk ρ (x &&& y).toInt (aAnd tab a b) := by
  refine ex2_ok (f := fun x y => x &&& y) h ha hb ?_
  split
  · rename_i m h1
    exact aMask_ok (hb.trans (cst_ok h h1))
  · split
    · rename_i m h1
      show orOk ρ (x &&& y).toInt _
      rw [Int32.and_comm]
      exact aMask_ok (ha.trans (cst_ok h h1))
    · exact full32_ok ρ _
noncomputable def aOr (tab : Tb) (a b : Ln) : OR := ex2 tab (fun x y => x ||| y) a b full32
theorem aOr_ok {ρ : Nat → Int} {tab : Tb} (h : tOk ρ tab) {a b : Ln} {x y : Int32} (ha : x.toInt = ev ρ a) (hb : y.toInt = ev ρ b) : orOk ρ (x ||| y).toInt (aOr tab a b) :=
  ex2_ok (f := fun x y => x ||| y) h ha hb (full32_ok ρ _)
noncomputable def aXor (tab : Tb) (a b : Ln) : OR := ex2 tab (fun x y => x ^^^ y) a b (match cst tab a with
  | some m => bif isZ m then .inl b else full32
  | none => match cst tab b with
    | some m => bif isZ m then .inl a else full32
    | none => full32)
theorem toInt_z {x : Int32} (h : x.toInt = 0) : x = 0 := by
  rw [← ofInt32 x, h]
  rfl
theorem aXor_ok {ρ : Nat → Int} {tab : Tb} (h : tOk ρ tab) {a b : Ln} {x y : Int32} (ha : x.toInt = ev ρ a) (hb : y.toInt = ev ρ b) : orOk ρ (x ^^^ y).toInt (aXor tab a b) := by
  refine ex2_ok (f := fun x y => x ^^^ y) h ha hb ?_
  split
  · rename_i m h1
    cases h2 : isZ m with
    | false => exact full32_ok ρ _
    | true =>
      have h3 := isZ_eq h2
      subst h3
      have h4 := toInt_z (ha.trans (cst_ok h h1))
      subst h4
      show (0 ^^^ y).toInt = ev ρ b
      rw [Int32.zero_xor, hb]
  · split
    · rename_i m h1
      cases h2 : isZ m with
      | false => exact full32_ok ρ _
      | true =>
        have h3 := isZ_eq h2
        subst h3
        have h4 := toInt_z (hb.trans (cst_ok h h1))
        subst h4
        show (x ^^^ 0).toInt = ev ρ a
        rw [Int32.xor_zero, ha]
    · exact full32_ok ρ _
noncomputable def aShlG (tab : Tb) (a b : Ln) : OR := match cst tab a, lb tab b, ub tab b with
  | some c, some l, some u => bif eqI c 1 then (bif leI 0 l then (bif leI u 30 then .inr (.ofNat (Nat.pow 2 l.toNat), .ofNat (Nat.pow 2 u.toNat), none) else full32) else full32) else full32
  | _, _, _ => full32
noncomputable def aShl (tab : Tb) (a b : Ln) : OR := ex2 tab (fun x y => x <<< (y &&& 31)) a b (aShlG tab a b)
theorem shl_one : ∀ n : Fin 31, ((1 : Int32) <<< ((Int32.ofInt (n : Nat)) &&& 31)).toInt = ((2 ^ (n : Nat) : Nat) : Int) := by decide
theorem aShl_ok {ρ : Nat → Int} {tab : Tb} (h : tOk ρ tab) {a b : Ln} {x y : Int32} (ha : x.toInt = ev ρ a) (hb : y.toInt = ev ρ b) : orOk ρ (x <<< (y &&& 31)).toInt (aShl tab a b) := by
  refine ex2_ok (f := fun x y => x <<< (y &&& 31)) h ha hb ?_
  unfold aShlG
  split
  · rename_i c l u h1 h2 h3
    cases h4 : eqI c 1 with
    | false => exact full32_ok ρ _
    | true =>
      cases h5 : leI 0 l with
      | false => exact full32_ok ρ _
      | true =>
        cases h6 : leI u 30 with
        | false => exact full32_ok ρ _
        | true =>
          have e1 := eqI_eq h4
          subst e1
          have e2 := leI_le h5
          have e3 := leI_le h6
          have e4 := lb_ok h h2
          have e5 := ub_ok h h3
          rw [← hb] at e4 e5
          have e6 : x = 1 := by
            rw [← ofInt32 x, ha, cst_ok h h1]
            rfl
          subst e6
          obtain ⟨n, hn⟩ : ∃ n : Nat, y.toInt = n := ⟨y.toInt.toNat, by omega⟩
          have e7 : y = Int32.ofInt (n : Nat) := by rw [← hn, ofInt32]
          have e8 : n < 31 := by omega
          have e9 := shl_one ⟨n, e8⟩
          try dsimp only at e9
          rw [← e7] at e9
          show (((2 ^ l.toNat : Nat) : Int) ≤ ((1 : Int32) <<< (y &&& 31)).toInt ∧ ((1 : Int32) <<< (y &&& 31)).toInt ≤ ((2 ^ u.toNat : Nat) : Int)) ∧ _
          rw [e9]
          refine ⟨⟨?_, ?_⟩, fun _ h => by cases h⟩
          · exact Int.ofNat_le.mpr (Nat.pow_le_pow_right (by decide) (by omega))
          · exact Int.ofNat_le.mpr (Nat.pow_le_pow_right (by decide) (by omega))
  · exact full32_ok ρ _
noncomputable def aShrG (tab : Tb) (a b : Ln) : OR := match lb tab a, ub tab a, cst tab b with
  | some l, some u, some c => bif leI 0 l then (bif leI 1 c then (bif leI c 31 then .inr (0, u, bif leI 1 l then some (pluL a (.negSucc 0)) else none) else full32) else full32) else full32
  | some l, some u, none => bif leI 0 l then .inr (0, u, none) else full32
  | _, _, _ => full32
noncomputable def aShr (tab : Tb) (a b : Ln) : OR := ex2 tab (fun x y => x >>> (y &&& 31)) a b (aShrG tab a b)
theorem bv_and31 (z : BitVec 32) : (z &&& 31#32).toNat = z.toNat % 32 := by
  rw [BitVec.toNat_and]
  exact Nat.and_two_pow_sub_one_eq_mod z.toNat 5
theorem bv_smod (z : BitVec 32) (h : z.toNat < 32) : (z.smod 32).toNat = z.toNat := by
  have h1 : z.msb = false := BitVec.msb_eq_false_iff_two_mul_lt.mpr (by omega)
  have h2 : (32 : BitVec 32).msb = false := by decide
  unfold BitVec.smod
  rw [h1, h2]
  show (z.umod 32).toNat = z.toNat
  have e : (z.umod 32).toNat = z.toNat % 32 := rfl
  rw [e]
  exact Nat.mod_eq_of_lt h
theorem shr_nn {x y : Int32} : ∃ n : Nat, n < 32 ∧ (x >>> (y &&& 31)).toInt = x.toInt / ((2 ^ n : Nat) : Int) ∧ (∀ c : Nat, y.toInt = c → c < 32 → n = c) := by
  have h0 : (y &&& 31).toBitVec.toNat = y.toBitVec.toNat % 32 := bv_and31 y.toBitVec
  have h1 := bv_smod (y &&& 31).toBitVec (by omega)
  refine ⟨((y &&& 31).toBitVec.smod 32).toNat, by omega, ?_, ?_⟩
  · show ((x >>> (y &&& 31)).toBitVec).toInt = x.toBitVec.toInt / _
    rw [Int32.toBitVec_shiftRight, BitVec.sshiftRight_eq', BitVec.toInt_sshiftRight, Int.shiftRight_eq_div_pow]
  · intro c hc hlt
    have e : y.toInt = y.toBitVec.toInt := rfl
    have h2 := y.toBitVec.isLt
    have h3 := BitVec.toInt_eq_toNat_cond y.toBitVec
    rw [← e, hc] at h3
    have h4 : y.toBitVec.toNat = c := by
      split at h3 <;> omega
    omega
theorem aShr_ok {ρ : Nat → Int} {tab : Tb} (h : tOk ρ tab) {a b : Ln} {x y : Int32} (ha : x.toInt = ev ρ a) (hb : y.toInt = ev ρ b) : orOk ρ (x >>> (y &&& 31)).toInt (aShr tab a b) := by
  refine ex2_ok (f := fun x y => x >>> (y &&& 31)) h ha hb ?_
  have key : 0 ≤ x.toInt → 0 ≤ (x >>> (y &&& 31)).toInt ∧ (x >>> (y &&& 31)).toInt ≤ x.toInt := fun h0 => by
    obtain ⟨n, -, e, -⟩ := shr_nn (x := x) (y := y)
    rw [e]
    have hp : (0 : Int) < ((2 ^ n : Nat) : Int) := Int.ofNat_lt.mpr (Nat.two_pow_pos n)
    exact ⟨Int.ediv_nonneg h0 (Int.le_of_lt hp), Int.ediv_le_self _ h0⟩
  unfold aShrG
  split
  · rename_i l u c h1 h2 h3
    cases h4 : leI 0 l with
    | false => exact full32_ok ρ _
    | true =>
      cases h5 : leI 1 c with
      | false => exact full32_ok ρ _
      | true =>
        cases h6 : leI c 31 with
        | false => exact full32_ok ρ _
        | true =>
          have e1 := leI_le h4
          have e2 := lb_ok h h1
          have e3 := ub_ok h h2
          rw [← ha] at e2 e3
          have h0 : 0 ≤ x.toInt := by omega
          have k := key h0
          refine ⟨⟨k.1, by omega⟩, fun e he => ?_⟩
          cases h7 : leI 1 l with
          | false => rw [h7] at he; cases he
          | true =>
            rw [h7] at he
            cases he
            rw [ev_plu]
            have e4 := leI_le h7
            have e5 := leI_le h5
            have e6 := leI_le h6
            obtain ⟨n, hn, e, hc⟩ := shr_nn (x := x) (y := y)
            have e7 : n = c.toNat := hc c.toNat (by rw [hb, cst_ok h h3]; omega) (by omega)
            show (x >>> (y &&& 31)).toInt ≤ ev ρ a + -1
            rw [e, ← ha]
            have e8 : 2 ≤ 2 ^ n := by
              have : 2 ^ 1 ≤ 2 ^ n := Nat.pow_le_pow_right (by decide) (by omega)
              omega
            have e9 : x.toInt / ((2 ^ n : Nat) : Int) < x.toInt := Int.ediv_lt_self_of_pos_of_ne_one (by omega) (by omega)
            omega
  · rename_i l u h1 h2 h3
    cases h4 : leI 0 l with
    | false => exact full32_ok ρ _
    | true =>
      have e1 := leI_le h4
      have e2 := lb_ok h h1
      have e3 := ub_ok h h2
      rw [← ha] at e2 e3
      have k := key (by omega)
      exact ⟨⟨k.1, by omega⟩, fun _ h => by cases h⟩
  · exact full32_ok ρ _
noncomputable def aUshrG (tab : Tb) (b : Ln) : OR := match cst tab b with
  | some c => bif eqI c 16 then .inr (0, 65535, none) else full32
  | none => full32
theorem ushr16 (x : Int32) : ((x.toUInt32 >>> (Int32.toUInt32 16 &&& Int32.toUInt32 31)).toInt32).toInt = ((x.toUInt32.toNat / 65536 : Nat) : Int) := by
  have e0 : Int32.toUInt32 16 &&& Int32.toUInt32 31 = 16 := by decide
  rw [e0]
  have e1 : ((x.toUInt32 >>> 16).toInt32).toInt = ((x.toUInt32 >>> 16).toBitVec).toInt := rfl
  have e2 : (x.toUInt32 >>> 16).toBitVec.toNat = x.toUInt32.toNat / 65536 := by
    show (x.toUInt32 >>> 16).toNat = _
    rw [UInt32.toNat_shiftRight, Nat.shiftRight_eq_div_pow]
    rfl
  have h2 : x.toUInt32.toNat < 4294967296 := x.toUInt32.toBitVec.isLt
  have h4 := BitVec.toInt_eq_toNat_cond (x.toUInt32 >>> 16).toBitVec
  rw [e1, h4, e2]
  split <;> omega
noncomputable def aUshr (tab : Tb) (a b : Ln) : OR := ex2 tab (fun x y => (x.toUInt32 >>> (y.toUInt32 &&& Int32.toUInt32 31)).toInt32) a b (aUshrG tab b)
theorem aUshr_ok {ρ : Nat → Int} {tab : Tb} (h : tOk ρ tab) {a b : Ln} {x y : Int32} (ha : x.toInt = ev ρ a) (hb : y.toInt = ev ρ b) : orOk ρ ((x.toUInt32 >>> (y.toUInt32 &&& Int32.toUInt32 31)).toInt32).toInt (aUshr tab a b) :=
  ex2_ok (f := fun x y => (x.toUInt32 >>> (y.toUInt32 &&& Int32.toUInt32 31)).toInt32) h ha hb (by
    unfold aUshrG
    split
    · rename_i c h1
      cases h2 : eqI c 16 with
      | false => exact full32_ok ρ _
      | true =>
        have e1 := cst_ok h h1
        rw [eqI_eq h2, ← hb] at e1
        have e2 : y = 16 := by rw [← ofInt32 y, e1]; rfl
        subst e2
        have h3 : x.toUInt32.toNat < 4294967296 := x.toUInt32.toBitVec.isLt
        show (0 ≤ _ ∧ _ ≤ (65535 : Int)) ∧ _
        rw [ushr16]
        exact ⟨by omega, fun _ h => by cases h⟩
    · exact full32_ok ρ _)
noncomputable def nz_a0 :=
  fun (tab : Tb) (fs : List Ln) (e : Ln) => ((le0 tab fs (pluL (sclL (.negSucc (nat_lit 0)) e) (.ofNat (nat_lit 1)))) : Bool)
noncomputable def nz (tab : Tb) (fs : List Ln) (e : Ln) : Bool :=
  (Bool.rec (motive := fun _ => Bool) (nz_a0 tab fs e) true (le0 tab fs (pluL e (.ofNat (nat_lit 1)))))
theorem nz_def (tab : Tb) (fs : List Ln) (e : Ln) : nz tab fs e = bif le0 tab fs (pluL e 1) then true else le0 tab fs (pluL (sclL (.negSucc 0) e) 1) := by
  show (Bool.rec (motive := fun _ => Bool) (le0 tab fs (pluL (sclL (.negSucc (nat_lit 0)) e) (.ofNat (nat_lit 1)))) true (le0 tab fs (pluL e (.ofNat (nat_lit 1))))) = _
  try simp only [iAddQ_eq, iMulQ_eq, iNegQ_eq, lenQ_eq, nthQ_eq, setQ_eq, appQ_eq, mapQ_eq, allQ_eq, anyQ_eq, dropQ_eq, takeQ_eq, revQ_eq, getDQ_eq, optLQ_eq, brecC]
  all_goals
    cases hq_1 : (le0 tab fs ((pluL e 1))) with
    | false =>
      try dsimp only [cond_false, cond_true]
      all_goals rfl
    | true =>
      try dsimp only [cond_false, cond_true]
      all_goals rfl
theorem nz_ok {ρ : Nat → Int} {tab : Tb} {fs : List Ln} (h : tOk ρ tab) (hf : fOk ρ fs) {e : Ln} (he : nz tab fs e = true) : ev ρ e ≠ 0 := by
  rw [nz_def] at he
  cases h1 : le0 tab fs (pluL e 1) with
  | true =>
    have := le0_ok h hf h1
    rw [ev_plu] at this
    omega
  | false =>
    rw [h1] at he
    have := le0_ok h hf he
    rw [ev_plu, ev_scl] at this
    have h3 : (Int.negSucc 0) * ev ρ e = - ev ρ e := by show (-1) * ev ρ e = _; omega
    omega
noncomputable def aDivG (tab : Tb) (a b : Ln) : OR := match lb tab a, ub tab a, cst tab b with
  | some l, some u, some c => bif leI 0 l then (bif leI 1 c then .inr (Int.ediv l c, Int.ediv u c, none) else full32) else full32
  | _, _, _ => full32
noncomputable def aDiv (tab : Tb) (fs : List Ln) (a b : Ln) : Option OR := bif nz tab fs b then some (ex2 tab (fun x y => x / y) a b (aDivG tab a b)) else none
theorem div_nn {x y : Int32} (hx : 0 ≤ x.toInt) (hy : 1 ≤ y.toInt) : (x / y).toInt = x.toInt / y.toInt := by
  have h1 := in32 x
  have e2 : hi32 = 2147483647 := rfl
  have e1 : lo32 = -2147483648 := rfl
  have h2 : 0 ≤ x.toInt / y.toInt := Int.ediv_nonneg hx (by omega)
  have h3 : x.toInt / y.toInt ≤ x.toInt := Int.ediv_le_self _ hx
  rw [Int32.toInt_div, Int.tdiv_eq_ediv_of_nonneg hx]
  exact bmod32 (by omega) (by omega)
theorem aDiv_ok {ρ : Nat → Int} {tab : Tb} {fs : List Ln} (h : tOk ρ tab) (hf : fOk ρ fs) {a b : Ln} {x y : Int32} {r : OR} (ha : x.toInt = ev ρ a) (hb : y.toInt = ev ρ b) (hr : aDiv tab fs a b = some r) : y ≠ 0 ∧ orOk ρ (x / y).toInt r := by
  unfold aDiv at hr
  cases h1 : nz tab fs b with
  | false => rw [h1] at hr; cases hr
  | true =>
    rw [h1] at hr
    cases hr
    refine ⟨fun q => nz_ok h hf h1 (by rw [← hb, q]; rfl), ex2_ok (f := fun x y => x / y) h ha hb ?_⟩
    unfold aDivG
    split
    · rename_i l u c h1 h2 h3
      cases h4 : leI 0 l with
      | false => exact full32_ok ρ _
      | true =>
        cases h5 : leI 1 c with
        | false => exact full32_ok ρ _
        | true =>
          have e1 := leI_le h4
          have e2 := lb_ok h h1
          have e3 := ub_ok h h2
          have e4 := leI_le h5
          have e5 := cst_ok h h3
          rw [← ha] at e2 e3
          rw [← hb] at e5
          subst e5
          show (l / y.toInt ≤ (x / y).toInt ∧ (x / y).toInt ≤ u / y.toInt) ∧ _
          rw [div_nn (by omega) e4]
          exact ⟨⟨Int.ediv_le_ediv (by omega) e2, Int.ediv_le_ediv (by omega) e3⟩, fun _ h => by cases h⟩
    · exact full32_ok ρ _
noncomputable def aRemG (tab : Tb) (a b : Ln) : OR := match lb tab a, lb tab b, ub tab b with
  | some l, some c, some u => bif leI 0 l then (bif leI 1 c then .inr (0, Int.add u (.negSucc 0), none) else full32) else full32
  | _, _, _ => full32
noncomputable def aRem (tab : Tb) (fs : List Ln) (a b : Ln) : Option OR := bif nz tab fs b then some (ex2 tab (fun x y => x - x / y * y) a b (aRemG tab a b)) else none
theorem aRem_ok {ρ : Nat → Int} {tab : Tb} {fs : List Ln} (h : tOk ρ tab) (hf : fOk ρ fs) {a b : Ln} {x y : Int32} {r : OR} (ha : x.toInt = ev ρ a) (hb : y.toInt = ev ρ b) (hr : aRem tab fs a b = some r) : y ≠ 0 ∧ orOk ρ (x - x / y * y).toInt r := by
  unfold aRem at hr
  cases h1 : nz tab fs b with
  | false => rw [h1] at hr; cases hr
  | true =>
    rw [h1] at hr
    cases hr
    refine ⟨fun q => nz_ok h hf h1 (by rw [← hb, q]; rfl), ex2_ok (f := fun x y => x - x / y * y) h ha hb ?_⟩
    unfold aRemG
    split
    · rename_i l c u h1 h2 h3
      cases h4 : leI 0 l with
      | false => exact full32_ok ρ _
      | true =>
        cases h5 : leI 1 c with
        | false => exact full32_ok ρ _
        | true =>
          have e1 := leI_le h4
          have e2 := lb_ok h h1
          have e4 := leI_le h5
          have e5 := lb_ok h h2
          have eU := ub_ok h h3
          rw [← ha] at e2
          rw [← hb] at e5 eU
          have e4 := Int.le_trans e4 e5
          have hx : 0 ≤ x.toInt := by omega
          have e6 := div_nn hx e4
          have h1 := in32 x
          have q2 : hi32 = 2147483647 := rfl
          have q1 : lo32 = -2147483648 := rfl
          have e7 := Int.emod_nonneg x.toInt (b := y.toInt) (by omega)
          have e8 := Int.emod_lt_of_pos x.toInt (b := y.toInt) (by omega)
          have e9 := Int.mul_ediv_add_emod x.toInt y.toInt
          have e10 : x.toInt / y.toInt * y.toInt = y.toInt * (x.toInt / y.toInt) := Int.mul_comm _ _
          have e13 : 0 ≤ x.toInt / y.toInt * y.toInt := Int.mul_nonneg (Int.ediv_nonneg hx (by omega)) (by omega)
          have e11 : (x / y * y).toInt = x.toInt / y.toInt * y.toInt := by
            rw [Int32.toInt_mul, e6]
            exact bmod32 (by omega) (by omega)
          have e12 : (x - x / y * y).toInt = x.toInt % y.toInt := by
            rw [Int32.toInt_sub, e11, bmod32 (by omega) (by omega)]
            omega
          show (0 ≤ (x - x / y * y).toInt ∧ (x - x / y * y).toInt ≤ u + (-1)) ∧ _
          rw [e12]
          exact ⟨⟨e7, by omega⟩, fun _ h => by cases h⟩
    · exact full32_ok ρ _
noncomputable def aI2c_a0 :=
  ((.inr ((.ofNat (nat_lit 0)), (.ofNat (nat_lit 65535)), none)) : OR)
noncomputable def aI2c (tab : Tb) (a : Ln) : OR :=
  (Bool.rec (motive := fun _ => OR) aI2c_a0 (.inl a) (inR tab (.ofNat (nat_lit 0)) (.ofNat (nat_lit 65535)) a))
theorem aI2c_def (tab : Tb) (a : Ln) : aI2c tab a = bif inR tab 0 65535 a then .inl a else .inr (.ofNat 0, .ofNat 65535, none) := by
  show (Bool.rec (motive := fun _ => OR) (.inr ((.ofNat (nat_lit 0)), (.ofNat (nat_lit 65535)), none)) (.inl a) (inR tab (.ofNat (nat_lit 0)) (.ofNat (nat_lit 65535)) a)) = _
  try simp only [iAddQ_eq, iMulQ_eq, iNegQ_eq, lenQ_eq, nthQ_eq, setQ_eq, appQ_eq, mapQ_eq, allQ_eq, anyQ_eq, dropQ_eq, takeQ_eq, revQ_eq, getDQ_eq, optLQ_eq, brecC]
  all_goals
    cases hq_1 : (inR tab 0 65535 a) with
    | false =>
      try dsimp only [cond_false, cond_true]
      all_goals rfl
    | true =>
      try dsimp only [cond_false, cond_true]
      all_goals rfl
theorem i2c_toInt (x : Int32) : ((x.toUInt32 % 65536).toInt32).toInt = x.toInt % 65536 := by
  have e1 : ((x.toUInt32 % 65536).toInt32).toInt = ((x.toUInt32 % 65536).toBitVec).toInt := rfl
  have e2 : (x.toUInt32 % 65536).toBitVec.toNat = x.toBitVec.toNat % 65536 := by
    show ((x.toUInt32 % 65536)).toNat = _
    rw [UInt32.toNat_mod]
    rfl
  have e3 : x.toInt = x.toBitVec.toInt := rfl
  have h2 := x.toBitVec.isLt
  have h3 := BitVec.toInt_eq_toNat_cond x.toBitVec
  have h4 := BitVec.toInt_eq_toNat_cond (x.toUInt32 % 65536).toBitVec
  rw [e1, e3, h4, h3, e2]
  split <;> split <;> omega
theorem aI2c_ok {ρ : Nat → Int} {tab : Tb} (h : tOk ρ tab) {a : Ln} {x : Int32} (ha : x.toInt = ev ρ a) : orOk ρ ((x.toUInt32 % 65536).toInt32).toInt (aI2c tab a) := by
  rw [aI2c_def]
  rw [i2c_toInt]
  cases h1 : inR tab 0 65535 a with
  | false => exact ⟨by show (0 : Int) ≤ _ ∧ _ ≤ (65535 : Int); omega, fun _ h => by cases h⟩
  | true =>
    have h2 := inR_ok h h1
    show x.toInt % 65536 = ev ρ a
    omega
-- longs
noncomputable def lAdd (tab : Tb) (a b : Ln) : OR := fit64 tab (addL a b)
noncomputable def lSub (tab : Tb) (a b : Ln) : OR := fit64 tab (subL a b)
noncomputable def lMul (tab : Tb) (a b : Ln) : OR := match aMulE tab a b with
  | some e => fit64 tab e
  | none => full64
noncomputable def lNeg (tab : Tb) (a : Ln) : OR := fit64 tab (sclL (.negSucc 0) a)
theorem lAdd_ok {ρ : Nat → Int} {tab : Tb} (h : tOk ρ tab) {a b : Ln} {x y : Int64} (ha : x.toInt = ev ρ a) (hb : y.toInt = ev ρ b) : orOk ρ (x + y).toInt (lAdd tab a b) :=
  fit64_ok h (by rw [Int64.toInt_add, ev_add, ha, hb])
theorem lSub_ok {ρ : Nat → Int} {tab : Tb} (h : tOk ρ tab) {a b : Ln} {x y : Int64} (ha : x.toInt = ev ρ a) (hb : y.toInt = ev ρ b) : orOk ρ (x - y).toInt (lSub tab a b) :=
  fit64_ok h (by rw [Int64.toInt_sub, ev_sub, ha, hb])
theorem lMul_ok {ρ : Nat → Int} {tab : Tb} (h : tOk ρ tab) {a b : Ln} {x y : Int64} (ha : x.toInt = ev ρ a) (hb : y.toInt = ev ρ b) : orOk ρ (x * y).toInt (lMul tab a b) := by
  unfold lMul
  split
  · rename_i e h1
    exact fit64_ok h (by rw [Int64.toInt_mul, aMulE_ok h h1, ha, hb])
  · exact full64_ok ρ _
theorem lNeg_ok {ρ : Nat → Int} {tab : Tb} (h : tOk ρ tab) {a : Ln} {x : Int64} (ha : x.toInt = ev ρ a) : orOk ρ (-x).toInt (lNeg tab a) :=
  fit64_ok h (by
    rw [Int64.toInt_neg, ev_scl, ha]
    congr 1
    show _ = (-1) * ev ρ a
    omega)
noncomputable def lDiv (tab : Tb) (fs : List Ln) (a b : Ln) : Option OR := bif nz tab fs b then some (match cst tab a, cst tab b with
  | some x, some y => .inl (kL (Int64.ofInt x / Int64.ofInt y).toInt)
  | _, _ => full64) else none
theorem lDiv_ok {ρ : Nat → Int} {tab : Tb} {fs : List Ln} (h : tOk ρ tab) (hf : fOk ρ fs) {a b : Ln} {x y : Int64} {r : OR} (ha : x.toInt = ev ρ a) (hb : y.toInt = ev ρ b) (hr : lDiv tab fs a b = some r) : y ≠ 0 ∧ orOk ρ (x / y).toInt r := by
  unfold lDiv at hr
  cases h1 : nz tab fs b with
  | false => rw [h1] at hr; cases hr
  | true =>
    rw [h1] at hr
    cases hr
    refine ⟨fun q => nz_ok h hf h1 (by rw [← hb, q]; rfl), ?_⟩
    split
    · rename_i c d h1 h2
      have e1 := cst_ok h h1
      have e2 := cst_ok h h2
      rw [← ha] at e1
      rw [← hb] at e2
      subst e1
      subst e2
      show (x / y).toInt = ev ρ (kL _)
      rw [ev_k, ofInt64, ofInt64]
    · exact full64_ok ρ _
theorem i2l_toInt (x : Int32) : x.toInt64.toInt = x.toInt := Int32.toInt_toInt64 x
noncomputable def aL2i (tab : Tb) (a : Ln) : OR :=
  (fit32 tab a)
theorem aL2i_def (tab : Tb) (a : Ln) : aL2i tab a = fit32 tab a := by
  show (fit32 tab a) = _
  all_goals rfl
theorem aL2i_ok {ρ : Nat → Int} {tab : Tb} (h : tOk ρ tab) {a : Ln} {x : Int64} (ha : x.toInt = ev ρ a) : orOk ρ x.toInt32.toInt (aL2i tab a) :=
  fit32_ok h (by rw [Int64.toInt_toInt32, ha])
noncomputable def inF_a0 :=
  fun (tab : Tb) (fs : List Ln) (e : Ln) (hi : Int) (lo : Int) => ((Bool.rec (motive := fun _ => Bool) false (le0 tab fs (pluL e (iNegQ hi))) (le0 tab fs (subL (kL lo) e))) : Bool)
noncomputable def inF (tab : Tb) (fs : List Ln) (lo hi : Int) (e : Ln) : Bool :=
  (Bool.rec (motive := fun _ => Bool) (inF_a0 tab fs e hi lo) true (inR tab lo hi e))
theorem inF_def (tab : Tb) (fs : List Ln) (lo hi : Int) (e : Ln) : inF tab fs lo hi e = bif inR tab lo hi e then true else bif le0 tab fs (subL (kL lo) e) then le0 tab fs (pluL e (Int.neg hi)) else false := by
  show (Bool.rec (motive := fun _ => Bool) (Bool.rec (motive := fun _ => Bool) false (le0 tab fs (pluL e (iNegQ hi))) (le0 tab fs (subL (kL lo) e))) true (inR tab lo hi e)) = _
  try simp only [iAddQ_eq, iMulQ_eq, iNegQ_eq, lenQ_eq, nthQ_eq, setQ_eq, appQ_eq, mapQ_eq, allQ_eq, anyQ_eq, dropQ_eq, takeQ_eq, revQ_eq, getDQ_eq, optLQ_eq, brecC]
  all_goals
    cases hq_1 : (inR tab lo hi e) with
    | false =>
      try dsimp only [cond_false, cond_true]
      all_goals
        cases hq_2 : (le0 tab fs ((subL ((kL lo)) e))) with
        | false =>
          try dsimp only [cond_false, cond_true]
          all_goals rfl
        | true =>
          try dsimp only [cond_false, cond_true]
          all_goals rfl
    | true =>
      try dsimp only [cond_false, cond_true]
      all_goals rfl
theorem inF_ok {ρ : Nat → Int} {tab : Tb} {fs : List Ln} (ht : tOk ρ tab) (hf : fOk ρ fs) {lo hi : Int} {e : Ln} (h : inF tab fs lo hi e = true) : lo ≤ ev ρ e ∧ ev ρ e ≤ hi := by
  rw [inF_def] at h
  cases h1 : inR tab lo hi e with
  | true => exact inR_ok ht h1
  | false =>
    rw [h1] at h
    cases h2 : le0 tab fs (subL (kL lo) e) with
    | false => rw [h2] at h; cases h
    | true =>
      rw [h2] at h
      have q1 := le0_ok ht hf h2
      have q2 := le0_ok ht hf h
      rw [ev_sub, ev_k] at q1
      rw [ev_plu] at q2
      have q3 : Int.neg hi = - hi := rfl
      rw [q3] at q2
      omega
noncomputable def fitIF_a0 :=
  fun (c_344 : Int) => ((.inl (kL (Int.bmod c_344 (nat_lit 4294967296)))) : OR)
noncomputable def fitIF (tab : Tb) (fs : List Ln) (e : Ln) : OR :=
  (Bool.rec (motive := fun _ => OR) (Option.rec (motive := fun _ => OR) full32 (fun c_344 => (fitIF_a0 c_344)) (cst tab e)) (.inl e) (inF tab fs lo32 hi32 e))
theorem fitIF_def (tab : Tb) (fs : List Ln) (e : Ln) : fitIF tab fs e = (bif inF tab fs lo32 hi32 e then .inl e else match cst tab e with
  | some c => .inl (kL (Int.bmod c 4294967296))
  | none => full32) := by
  show (Bool.rec (motive := fun _ => OR) (Option.rec (motive := fun _ => OR) full32 (fun c_343 => (.inl (kL (Int.bmod c_343 (nat_lit 4294967296))))) (cst tab e)) (.inl e) (inF tab fs lo32 hi32 e)) = _
  try simp only [iAddQ_eq, iMulQ_eq, iNegQ_eq, lenQ_eq, nthQ_eq, setQ_eq, appQ_eq, mapQ_eq, allQ_eq, anyQ_eq, dropQ_eq, takeQ_eq, revQ_eq, getDQ_eq, optLQ_eq, brecC]
  all_goals
    cases hq_1 : (inF tab fs lo32 hi32 e) with
    | false =>
      try dsimp only [cond_false, cond_true]
      all_goals
        cases hq_2 : (cst tab e) with
        | none =>
          try dsimp only [cond_false, cond_true]
          all_goals rfl
        | some y_345 =>
          try dsimp only [cond_false, cond_true]
          all_goals rfl
    | true =>
      try dsimp only [cond_false, cond_true]
      all_goals rfl
theorem fitIF_ok {ρ : Nat → Int} {tab : Tb} {fs : List Ln} (h : tOk ρ tab) (hf : fOk ρ fs) {e : Ln} {x : Int32} (hx : x.toInt = (ev ρ e).bmod (2 ^ 32)) : orOk ρ x.toInt (fitIF tab fs e) := by
  rw [fitIF_def]
  cases h1 : inF tab fs lo32 hi32 e with
  | false =>
    simp only [cond_false]
    split
    · rename_i c hc
      show x.toInt = ev ρ (kL (c.bmod 4294967296))
      rw [ev_k, hx, cst_ok h hc]
    · exact full32_ok ρ x
  | true =>
    have h2 := inF_ok h hf h1
    show x.toInt = ev ρ e
    rw [hx, bmod32 h2.1 h2.2]
