/-! ===== hints: elements of rows told exactly, case by case ===== -/
theorem cT {α : Type} {x y z : α} (h : (bif true then x else y) = z) : x = z := h
noncomputable def setEl_a0 :=
  fun (m_3200 : Nat) (lo_3202 : Int) (hi_3203 : Int) (q_3204 : (List Sg)) => ((some ((.inr (m_3200, lo_3202, hi_3203)) :: q_3204)) : Option (List Sg))
noncomputable def setEl_a1 :=
  fun (e_1 : Nat) (lo_3202 : Int) (hi_3203 : Int) (e_2 : Ln) (m_3200 : Nat) (t_0 : List Sg) => ((some ((.inr (e_1, lo_3202, hi_3203)) :: ((.inl e_2) :: ((.inr ((Nat.sub m_3200 (Nat.succ e_1)), lo_3202, hi_3203)) :: t_0)))) : Option (List Sg))
noncomputable def setEl  : List Sg → Nat → Ln → Option (List Sg) :=
  fun e_0 e_1 e_2 => List.rec (motive := fun _ => Nat → Ln → Option (List Sg)) (fun e_1 e_2 => none) (fun h_0 t_0 ih e_1 e_2 => (Sum.rec (motive := fun _ => Option (List Sg)) (fun e_3196 => (Nat.rec (motive := fun _ => Option (List Sg)) (some ((.inl e_2) :: t_0)) (fun k_3198 _ => (Option.rec (motive := fun _ => Option (List Sg)) none (fun q_3199 => (some ((.inl e_3196) :: q_3199))) (ih k_3198 e_2))) e_1)) (fun x_3197 => (Prod.rec (motive := fun _ => Option (List Sg)) (fun m_3200 x_3201 => (Prod.rec (motive := fun _ => Option (List Sg)) (fun lo_3202 hi_3203 => (Bool.rec (motive := fun _ => Option (List Sg)) (Option.rec (motive := fun _ => Option (List Sg)) none (fun q_3204 => (setEl_a0 m_3200 lo_3202 hi_3203 q_3204)) (ih (Nat.sub e_1 m_3200) e_2)) (setEl_a1 e_1 lo_3202 hi_3203 e_2 m_3200 t_0) (Nat.blt e_1 m_3200))) x_3201)) x_3197)) h_0)) e_0 e_1 e_2
theorem setEl_def  (e_0 : List Sg) (e_1 : Nat) (e_2 : Ln) : setEl  e_0 e_1 e_2 = (match e_0, e_1, e_2 with
  | [], _, _ => none
  | .inl e :: r, k, v => match k with
    | 0 => some (.inl v :: r)
    | k + 1 => (match setEl r k v with
      | some q => some (.inl e :: q)
      | none => none)
  | .inr (m, lo, hi) :: r, k, v => bif Nat.blt k m then some (.inr (k, lo, hi) :: .inl v :: .inr (Nat.sub m (Nat.succ k), lo, hi) :: r) else (match setEl r (Nat.sub k m) v with
    | some q => some (.inr (m, lo, hi) :: q)
    | none => none)) := by
  cases e_0 with
  | nil =>
    show none = _
    try simp only [iAddQ_eq, iMulQ_eq, iNegQ_eq, lenQ_eq, nthQ_eq, setQ_eq, appQ_eq, mapQ_eq, allQ_eq, anyQ_eq, dropQ_eq, takeQ_eq, revQ_eq, getDQ_eq, optLQ_eq, brecC]
    all_goals rfl
  | cons h_0 t_0 =>
    show (Sum.rec (motive := fun _ => Option (List Sg)) (fun e_3205 => (Nat.rec (motive := fun _ => Option (List Sg)) (some ((.inl e_2) :: t_0)) (fun k_3207 _ => (Option.rec (motive := fun _ => Option (List Sg)) none (fun q_3208 => (some ((.inl e_3205) :: q_3208))) (setEl t_0 k_3207 e_2))) e_1)) (fun x_3206 => (Prod.rec (motive := fun _ => Option (List Sg)) (fun m_3209 x_3210 => (Prod.rec (motive := fun _ => Option (List Sg)) (fun lo_3211 hi_3212 => (Bool.rec (motive := fun _ => Option (List Sg)) (Option.rec (motive := fun _ => Option (List Sg)) none (fun q_3213 => (some ((.inr (m_3209, lo_3211, hi_3212)) :: q_3213))) (setEl t_0 (Nat.sub e_1 m_3209) e_2)) (some ((.inr (e_1, lo_3211, hi_3212)) :: ((.inl e_2) :: ((.inr ((Nat.sub m_3209 (Nat.succ e_1)), lo_3211, hi_3212)) :: t_0)))) (Nat.blt e_1 m_3209))) x_3210)) x_3206)) h_0) = _
    try simp only [iAddQ_eq, iMulQ_eq, iNegQ_eq, lenQ_eq, nthQ_eq, setQ_eq, appQ_eq, mapQ_eq, allQ_eq, anyQ_eq, dropQ_eq, takeQ_eq, revQ_eq, getDQ_eq, optLQ_eq, brecC]
    all_goals
      cases h_0 with
      | inl y_3214 =>
        try dsimp only [cond_false, cond_true]
        all_goals
          cases e_1 with
          | zero =>
            try dsimp only [cond_false, cond_true]
            all_goals rfl
          | succ y_3215 =>
            try dsimp only [cond_false, cond_true]
            all_goals
              cases hq_3 : (setEl t_0 y_3215 e_2) with
              | none =>
                try dsimp only [cond_false, cond_true]
                all_goals rfl
              | some y_3216 =>
                try dsimp only [cond_false, cond_true]
                all_goals rfl
      | inr y_3217 =>
        try dsimp only [cond_false, cond_true]
        all_goals
          cases y_3217 with
          | mk y_3218 y_3219 =>
            try dsimp only [cond_false, cond_true]
            all_goals
              cases y_3219 with
              | mk y_3220 y_3221 =>
                try dsimp only [cond_false, cond_true]
                all_goals
                  cases hq_6 : (Nat.blt e_1 y_3218) with
                  | false =>
                    try dsimp only [cond_false, cond_true]
                    all_goals
                      cases hq_7 : (setEl t_0 ((Nat.sub e_1 y_3218)) e_2) with
                      | none =>
                        try dsimp only [cond_false, cond_true]
                        all_goals rfl
                      | some y_3222 =>
                        try dsimp only [cond_false, cond_true]
                        all_goals rfl
                  | true =>
                    try dsimp only [cond_false, cond_true]
                    all_goals rfl
theorem setEl_ok {ρ : Nat → Int} {v : Ln} : ∀ {s s' : List Sg} {l : List Int32} {k : Nat}, srel ρ s l → setEl s k v = some s' → (∀ x, l[k]? = some x → x.toInt = ev ρ v) → srel ρ s' l := by
  intro s
  induction s with
  | nil => intro s' l k _ h; cases h
  | cons q r ih =>
    intro s' l k h ho hx
    match q, h with
    | .inl e, ⟨y, l', e1, e2, h3⟩ =>
      subst e1
      cases k with
      | zero => cases ho; exact ⟨y, l', rfl, hx y rfl, h3⟩
      | succ k =>
        rw [setEl_def] at ho
        try dsimp only at ho
        try dsimp only at ho
        cases h4 : setEl r k v with
        | none => rw [h4] at ho; cases ho
        | some s2 =>
          rw [h4] at ho
          cases ho
          exact ⟨y, l', rfl, e2, ih h3 h4 hx⟩
    | .inr (m, lo, hi), ⟨l1, l2, e1, e2, e3, h3⟩ =>
      subst e1
      rw [setEl_def] at ho
      try dsimp only at ho
      cases h4 : Nat.blt k m with
      | true =>
        rw [h4] at ho
        have h5 := blt_iff.mp h4
        cases ho
        have hk : k < l1.length := by omega
        refine ⟨l1.take k, l1[k] :: (l1.drop (k + 1) ++ l2), ?_, by rw [List.length_take]; omega, fun y hy => e3 y (List.mem_of_mem_take hy), l1[k], l1.drop (k + 1) ++ l2, rfl, hx _ ?_, l1.drop (k + 1), l2, rfl, by rw [List.length_drop, e2]; rfl, fun y hy => e3 y (List.mem_of_mem_drop hy), h3⟩
        · have : l1 = l1.take k ++ l1[k] :: l1.drop (k + 1) := by
            rw [← List.drop_eq_getElem_cons hk, List.take_append_drop]
          exact (congrArg (fun z => z ++ l2) this).trans (by
            show (l1.take k ++ l1[k] :: l1.drop (k + 1)) ++ l2 = _
            rw [List.append_assoc, List.cons_append])
        · rw [List.getElem?_append_left hk, List.getElem?_eq_getElem]
      | false =>
        rw [h4] at ho
        have h5 := blt_f h4
        cases h6 : setEl r (Nat.sub k m) v with
        | none => rw [h6] at ho; cases ho
        | some s2 =>
          rw [h6] at ho
          cases ho
          refine ⟨l1, l2, rfl, e2, e3, ih h3 h6 (fun x hx' => hx x ?_)⟩
          rw [List.getElem?_append_right (by omega), e2]
          exact hx'
/-- an element: the cell, the place, its bounds -/
abbrev EL : Type := Nat × Nat × Int × Int
noncomputable def appCase_a0 :=
  fun (ih : AH → Nat → Tb → Option (AH × Nat × Tb)) (e_1 : AH) (c_3223 : Nat) k_3232 (s_3236 : (List Sg)) (e_2 : Nat) (lo_3227 : Int) (hi_3228 : Int) (e_3 : Tb) => ((ih (setQ e_1 c_3223 (.inr (k_3232, (.inl s_3236)))) (Nat.succ e_2) (tbIns e_2 lo_3227 hi_3228 e_3)) : Option (AH × Nat × Tb))
noncomputable def appCase  : List EL → AH → Nat → Tb → Option (AH × Nat × Tb) :=
  fun e_0 e_1 e_2 e_3 => List.rec (motive := fun _ => AH → Nat → Tb → Option (AH × Nat × Tb)) (fun e_1 e_2 e_3 => (some (e_1, e_2, e_3))) (fun h_0 t_0 ih e_1 e_2 e_3 => (Prod.rec (motive := fun _ => Option (AH × Nat × Tb)) (fun c_3223 x_3224 => (Prod.rec (motive := fun _ => Option (AH × Nat × Tb)) (fun i_3225 x_3226 => (Prod.rec (motive := fun _ => Option (AH × Nat × Tb)) (fun lo_3227 hi_3228 => (Option.rec (motive := fun _ => Option (AH × Nat × Tb)) none (fun x_3229 => (Sum.rec (motive := fun _ => Option (AH × Nat × Tb)) (fun x_3230 => none) (fun x_3231 => (Prod.rec (motive := fun _ => Option (AH × Nat × Tb)) (fun k_3232 x_3233 => (Sum.rec (motive := fun _ => Option (AH × Nat × Tb)) (fun s_3234 => (Bool.rec (motive := fun _ => Option (AH × Nat × Tb)) none (Option.rec (motive := fun _ => Option (AH × Nat × Tb)) none (fun s_3236 => (appCase_a0 ih e_1 c_3223 k_3232 s_3236 e_2 lo_3227 hi_3228 e_3)) (setEl s_3234 i_3225 (sL e_2))) (Nat.blt k_3232 (nat_lit 100)))) (fun x_3235 => none) x_3233)) x_3231)) x_3229)) (nthQ e_1 c_3223))) x_3226)) x_3224)) h_0)) e_0 e_1 e_2 e_3
theorem appCase_def  (e_0 : List EL) (e_1 : AH) (e_2 : Nat) (e_3 : Tb) : appCase  e_0 e_1 e_2 e_3 = (match e_0, e_1, e_2, e_3 with
  | [], A, nx, tab => some (A, nx, tab)
  | (c, i, lo, hi) :: r, A, nx, tab => match A[c]? with
    | some (.inr (k, .inl s)) => bif Nat.blt k 100 then (match setEl s i (sL nx) with
      | some s' => appCase r (A.set c (.inr (k, .inl s'))) (Nat.succ nx) (tbIns nx lo hi tab)
      | none => none) else none
    | _ => none) := by
  cases e_0 with
  | nil =>
    show (some (e_1, e_2, e_3)) = _
    try simp only [iAddQ_eq, iMulQ_eq, iNegQ_eq, lenQ_eq, nthQ_eq, setQ_eq, appQ_eq, mapQ_eq, allQ_eq, anyQ_eq, dropQ_eq, takeQ_eq, revQ_eq, getDQ_eq, optLQ_eq, brecC]
    all_goals rfl
  | cons h_0 t_0 =>
    show (Prod.rec (motive := fun _ => Option (AH × Nat × Tb)) (fun c_3237 x_3238 => (Prod.rec (motive := fun _ => Option (AH × Nat × Tb)) (fun i_3239 x_3240 => (Prod.rec (motive := fun _ => Option (AH × Nat × Tb)) (fun lo_3241 hi_3242 => (Option.rec (motive := fun _ => Option (AH × Nat × Tb)) none (fun x_3243 => (Sum.rec (motive := fun _ => Option (AH × Nat × Tb)) (fun x_3244 => none) (fun x_3245 => (Prod.rec (motive := fun _ => Option (AH × Nat × Tb)) (fun k_3246 x_3247 => (Sum.rec (motive := fun _ => Option (AH × Nat × Tb)) (fun s_3248 => (Bool.rec (motive := fun _ => Option (AH × Nat × Tb)) none (Option.rec (motive := fun _ => Option (AH × Nat × Tb)) none (fun s_3250 => (appCase t_0 (setQ e_1 c_3237 (.inr (k_3246, (.inl s_3250)))) (Nat.succ e_2) (tbIns e_2 lo_3241 hi_3242 e_3))) (setEl s_3248 i_3239 (sL e_2))) (Nat.blt k_3246 (nat_lit 100)))) (fun x_3249 => none) x_3247)) x_3245)) x_3243)) (nthQ e_1 c_3237))) x_3240)) x_3238)) h_0) = _
    try simp only [iAddQ_eq, iMulQ_eq, iNegQ_eq, lenQ_eq, nthQ_eq, setQ_eq, appQ_eq, mapQ_eq, allQ_eq, anyQ_eq, dropQ_eq, takeQ_eq, revQ_eq, getDQ_eq, optLQ_eq, brecC]
    all_goals
      cases h_0 with
      | mk y_3251 y_3252 =>
        try dsimp only [cond_false, cond_true]
        all_goals
          cases y_3252 with
          | mk y_3253 y_3254 =>
            try dsimp only [cond_false, cond_true]
            all_goals
              cases y_3254 with
              | mk y_3255 y_3256 =>
                try dsimp only [cond_false, cond_true]
                all_goals
                  cases hq_4 : e_1[y_3251]? with
                  | none =>
                    try dsimp only [cond_false, cond_true]
                    all_goals rfl
                  | some y_3257 =>
                    try dsimp only [cond_false, cond_true]
                    all_goals
                      cases y_3257 with
                      | inl y_3258 =>
                        try dsimp only [cond_false, cond_true]
                        all_goals rfl
                      | inr y_3259 =>
                        try dsimp only [cond_false, cond_true]
                        all_goals
                          cases y_3259 with
                          | mk y_3260 y_3261 =>
                            try dsimp only [cond_false, cond_true]
                            all_goals
                              cases y_3261 with
                              | inl y_3262 =>
                                try dsimp only [cond_false, cond_true]
                                all_goals
                                  cases hq_8 : (Nat.blt y_3260 100) with
                                  | false =>
                                    try dsimp only [cond_false, cond_true]
                                    all_goals rfl
                                  | true =>
                                    try dsimp only [cond_false, cond_true]
                                    all_goals
                                      cases hq_9 : (setEl y_3262 y_3253 ((sL e_2))) with
                                      | none =>
                                        try dsimp only [cond_false, cond_true]
                                        all_goals rfl
                                      | some y_3263 =>
                                        try dsimp only [cond_false, cond_true]
                                        all_goals rfl
                              | inr y_3264 =>
                                try dsimp only [cond_false, cond_true]
                                all_goals rfl
noncomputable def elOk (σ : SH) (e : EL) : Prop := ∃ (k : Nat) (l : List Int32) (x : Int32), σ[e.1]? = some (.inr (k, .inl l)) ∧ l[e.2.1]? = some x ∧ e.2.2.1 ≤ x.toInt ∧ x.toInt ≤ e.2.2.2
theorem appCase_ok {σ : SH} : ∀ (els : List EL) (A A' : AH) (nx nx' : Nat) (tab tab' : Tb) (fs : List Ln) (ρ : Nat → Int), appCase els A nx tab = some (A', nx', tab') → (∀ e ∈ els, elOk σ e) → (∀ ρ', agr2 nx ρ ρ' → tOk ρ' tab ∧ fOk ρ' fs ∧ rel2 (crel ρ') σ A) → ∃ ρ1, nx ≤ nx' ∧ agr2 nx ρ ρ1 ∧ ∀ ρ', agr2 nx' ρ1 ρ' → tOk ρ' tab' ∧ fOk ρ' fs ∧ rel2 (crel ρ') σ A' := by
  intro els
  induction els with
  | nil =>
    intro A A' nx nx' tab tab' fs ρ h _ hr
    cases h
    exact ⟨ρ, Nat.le_refl _, agr2.rf, hr⟩
  | cons e r ih =>
    obtain ⟨c, i, lo, hi⟩ := e
    intro A A' nx nx' tab tab' fs ρ h hel hr
    rw [appCase_def] at h
    try dsimp only at h
    split at h
    · rename_i k s hc
      cases hk : Nat.blt k 100 with
      | false => rw [hk] at h; cases h
      | true =>
        rw [hk] at h
        simp only [cond_true] at h
        cases hs : setEl s i (sL nx) with
        | none => rw [hs] at h; cases h
        | some s' =>
          rw [hs] at h
          obtain ⟨k0, l, x, x1, x2, x3, x4⟩ := hel (c, i, lo, hi) List.mem_cons_self
          try dsimp only at x1 x2 x3 x4
          obtain ⟨ρ1, y1, y2, y3⟩ := ih _ A' (Nat.succ nx) nx' _ tab' fs (fun j => if j = nx then x.toInt else ρ j) h (fun e he => hel e (List.mem_cons_of_mem _ he)) (fun ρ' ha => by
            have ha' : agr2 nx ρ ρ' := fun j hj => (ha j (Nat.lt_succ_of_lt hj)).trans (ev_upd j hj)
            have hn : ρ' nx = x.toInt := (ha nx (Nat.lt_succ_self nx)).trans (if_pos rfl)
            obtain ⟨w1, w2, w3⟩ := hr ρ' ha'
            refine ⟨tOk_cons w1 (by rw [hn]; exact x3) (by rw [hn]; exact x4), w2, ?_⟩
            obtain ⟨cc, c1, c2⟩ := rel2_get w3 hc
            obtain ⟨l', e1, e2⟩ := crI_inv (blt_iff.mp hk) c2
            rw [x1] at c1
            cases c1
            cases e1
            have hset := rel2_set w3 (i := c) (a := (.inr (k, .inl l) : SC)) (b := .inr (k, .inl s')) (arel_mk (blt_iff.mp hk) (setEl_ok e2 hs (fun z hz => by
              rw [x2] at hz
              cases hz
              rw [ev_s, hn])))
            have e7 : σ.set c (.inr (k, .inl l)) = σ := by
              refine List.ext_getElem? fun j => ?_
              by_cases hj : c = j
              · subst hj
                rw [List.getElem?_set_self (List.getElem?_eq_some_iff.mp x1).1, x1]
              · rw [List.getElem?_set_ne hj]
            rw [e7] at hset
            exact hset)
          exact ⟨ρ1, by omega, fun j hj => (y2 j (by omega)).trans (ev_upd j hj), y3⟩
    · cases h
noncomputable def allCases_a0 :=
  fun (A_3266 : AH) (pr : List PD) (nx_3268 : Nat) (tab_3269 : Tb) (fs : List Ln) (L_3270 : (List HR)) => ((some ((A_3266, pr, nx_3268, tab_3269, fs) :: L_3270)) : Option (List HR))
noncomputable def allCases (A : AH) (pr : List PD) (nx : Nat) (tab : Tb) (fs : List Ln) : List (List EL) → Option (List HR) :=
  fun e_0 => List.rec (motive := fun _ => Option (List HR)) (some []) (fun h_0 t_0 ih => (Option.rec (motive := fun _ => Option (List HR)) none (fun x_3265 => (Prod.rec (motive := fun _ => Option (List HR)) (fun A_3266 x_3267 => (Prod.rec (motive := fun _ => Option (List HR)) (fun nx_3268 tab_3269 => (Option.rec (motive := fun _ => Option (List HR)) none (fun L_3270 => (allCases_a0 A_3266 pr nx_3268 tab_3269 fs L_3270)) (ih))) x_3267)) x_3265)) (appCase h_0 A nx tab))) e_0 
theorem allCases_def (A : AH) (pr : List PD) (nx : Nat) (tab : Tb) (fs : List Ln) (e_0 : List (List EL)) : allCases A pr nx tab fs e_0 = (match e_0 with
  | [] => some []
  | els :: r => match appCase els A nx tab, allCases A pr nx tab fs r with
    | some (A', nx', tab'), some L => some ((A', pr, nx', tab', fs) :: L)
    | _, _ => none) := by
  cases e_0 with
  | nil =>
    show (some []) = _
    try simp only [iAddQ_eq, iMulQ_eq, iNegQ_eq, lenQ_eq, nthQ_eq, setQ_eq, appQ_eq, mapQ_eq, allQ_eq, anyQ_eq, dropQ_eq, takeQ_eq, revQ_eq, getDQ_eq, optLQ_eq, brecC]
    all_goals rfl
  | cons h_0 t_0 =>
    show (Option.rec (motive := fun _ => Option (List HR)) none (fun x_3271 => (Prod.rec (motive := fun _ => Option (List HR)) (fun A_3272 x_3273 => (Prod.rec (motive := fun _ => Option (List HR)) (fun nx_3274 tab_3275 => (Option.rec (motive := fun _ => Option (List HR)) none (fun L_3276 => (some ((A_3272, pr, nx_3274, tab_3275, fs) :: L_3276))) (allCases A pr nx tab fs t_0))) x_3273)) x_3271)) (appCase h_0 A nx tab)) = _
    try simp only [iAddQ_eq, iMulQ_eq, iNegQ_eq, lenQ_eq, nthQ_eq, setQ_eq, appQ_eq, mapQ_eq, allQ_eq, anyQ_eq, dropQ_eq, takeQ_eq, revQ_eq, getDQ_eq, optLQ_eq, brecC]
    all_goals
      cases hq_1 : (appCase h_0 A nx tab) with
      | none =>
        try dsimp only [cond_false, cond_true]
        all_goals rfl
      | some y_3277 =>
        try dsimp only [cond_false, cond_true]
        all_goals
          cases y_3277 with
          | mk y_3278 y_3279 =>
            try dsimp only [cond_false, cond_true]
            all_goals
              cases y_3279 with
              | mk y_3280 y_3281 =>
                try dsimp only [cond_false, cond_true]
                all_goals
                  cases hq_4 : (allCases A pr nx tab fs t_0) with
                  | none =>
                    try dsimp only [cond_false, cond_true]
                    all_goals rfl
                  | some y_3282 =>
                    try dsimp only [cond_false, cond_true]
                    all_goals rfl
theorem allCases_ok {σ : SH} {A : AH} {pr : List PD} {nx : Nat} {tab : Tb} {fs : List Ln} {ρ : Nat → Int} {PP : Nat → List (List Int32) → List Int → Prop} (hr : ∀ ρ', agr2 nx ρ ρ' → tOk ρ' tab ∧ fOk ρ' fs ∧ rel2 (crel ρ') σ A) (hp : ∀ ρ', agr2 nx ρ ρ' → prOk PP ρ' σ pr) : ∀ (cs : List (List EL)) (L : List HR), allCases A pr nx tab fs cs = some L → (∃ els ∈ cs, ∀ e ∈ els, elOk σ e) → ∃ q ∈ L, ∃ ρ1, nx ≤ q.2.2.1 ∧ agr2 nx ρ ρ1 ∧ (∀ ρ', agr2 q.2.2.1 ρ1 ρ' → tOk ρ' q.2.2.2.1 ∧ fOk ρ' q.2.2.2.2 ∧ rel2 (crel ρ') σ q.1) ∧ (∀ ρ', agr2 q.2.2.1 ρ1 ρ' → prOk PP ρ' σ q.2.1) := by
  intro cs
  induction cs with
  | nil => intro L _ h; obtain ⟨els, h1, _⟩ := h; cases h1
  | cons els r ih =>
    intro L h hex
    rw [allCases_def] at h
    try dsimp only at h
    split at h
    · rename_i A' nx' tab' L' h1 h2
      cases h
      obtain ⟨els', m1, m2⟩ := hex
      rcases List.mem_cons.mp m1 with rfl | m1
      · obtain ⟨ρ1, y1, y2, y3⟩ := appCase_ok (σ := σ) _ _ _ _ _ _ _ fs ρ h1 m2 hr
        exact ⟨_, List.mem_cons_self, ρ1, y1, y2, y3, fun ρ' ha => hp ρ' (fun i hi => (ha i (Nat.lt_of_lt_of_le hi y1)).trans (y2 i hi))⟩
      · obtain ⟨q, hq, rest⟩ := ih L' h2 ⟨els', m1, m2⟩
        exact ⟨q, List.mem_cons_of_mem _ hq, rest⟩
    · cases h
-- the cases of a step, of a fault, of the lanes
noncomputable def rgB (act : Nat) : Int × Int := bif (bif Nat.ble 1 act then Nat.ble act 6 else false) then (0, .ofNat 11) else bif Nat.beq act 8 then (0, 1) else bif Nat.beq act 9 then (0, .ofNat 7) else (lo32, hi32)
noncomputable def rgC (act : Nat) : Int × Int := bif (bif Nat.ble 1 act then Nat.ble act 6 else false) then (0, .ofNat 11) else (lo32, hi32)
noncomputable def recEls (t ti a ai b bi c ci : Nat) (act : Nat) : List EL := [(t, ti, .ofNat act, .ofNat act), (a, ai, 0, .ofNat 11), (b, bi, (rgB act).1, (rgB act).2), (c, ci, (rgC act).1, (rgC act).2)]
noncomputable def recCases (t ti a ai b bi c ci : Nat) : List (List EL) := (List.range 11).map (recEls t ti a ai b bi c ci)
theorem rgB_ok {act a b c : Int} (h : okRec act a b c) {n : Nat} (hn : act = n) (hb : lo32 ≤ b ∧ b ≤ hi32) : (rgB n).1 ≤ b ∧ b ≤ (rgB n).2 := by
  obtain ⟨h1, h2, h3, h4, h5⟩ := h
  unfold rgB
  cases z1 : (bif Nat.ble 1 n then Nat.ble n 6 else false) with
  | true =>
    obtain ⟨q1, q2⟩ := cand z1
    have := Nat.le_of_ble_eq_true q1
    have := Nat.le_of_ble_eq_true q2
    exact (h3 (by omega) (by omega)).1
  | false =>
    cases z2 : Nat.beq n 8 with
    | true => exact h4 (by have := Nat.eq_of_beq_eq_true z2; omega)
    | false =>
      cases z3 : Nat.beq n 9 with
      | true => exact h5 (by have := Nat.eq_of_beq_eq_true z3; omega)
      | false => exact hb
theorem rgC_ok {act a b c : Int} (h : okRec act a b c) {n : Nat} (hn : act = n) (hc : lo32 ≤ c ∧ c ≤ hi32) : (rgC n).1 ≤ c ∧ c ≤ (rgC n).2 := by
  obtain ⟨h1, h2, h3, h4, h5⟩ := h
  unfold rgC
  cases z1 : (bif Nat.ble 1 n then Nat.ble n 6 else false) with
  | true =>
    obtain ⟨q1, q2⟩ := cand z1
    have := Nat.le_of_ble_eq_true q1
    have := Nat.le_of_ble_eq_true q2
    exact (h3 (by omega) (by omega)).2
  | false => exact hc
theorem gI_get {l : List Int32} {i : Nat} (h : i < l.length) : ∃ x, l[i]? = some x ∧ gI l i = x.toInt := by
  refine ⟨l[i], List.getElem?_eq_getElem h, ?_⟩
  unfold gI
  rw [List.getD_eq_getElem?_getD, List.getElem?_eq_getElem h]
  rfl
/-- a cell's row, read -/
theorem arr_cell {σ : SH} {q : Nat} {i : Nat} (h : i < (arrI (σ.getD q (.inl (0, [])))).length) : ∃ (k : Nat) (l : List Int32), σ[q]? = some (.inr (k, .inl l)) ∧ l = arrI (σ.getD q (.inl (0, []))) := by
  rw [List.getD_eq_getElem?_getD] at h ⊢
  cases hc : σ[q]? with
  | none => rw [hc] at h; exact absurd h (Nat.not_lt_zero _)
  | some c =>
    rw [hc] at h
    match c, h with
    | .inr (k, .inl l), h => exact ⟨k, l, rfl, rfl⟩
    | .inl q, h => exact absurd h (Nat.not_lt_zero _)
    | .inr (k, .inr (.inl l)), h => exact absurd h (Nat.not_lt_zero _)
    | .inr (k, .inr (.inr l)), h => exact absurd h (Nat.not_lt_zero _)
theorem el_of {σ : SH} {q i : Nat} {lo hi : Int} (h : i < (arrI (σ.getD q (.inl (0, [])))).length) (h1 : lo ≤ gI (arrI (σ.getD q (.inl (0, [])))) i) (h2 : gI (arrI (σ.getD q (.inl (0, [])))) i ≤ hi) : elOk σ (q, i, lo, hi) := by
  obtain ⟨k, l, e1, e2⟩ := arr_cell h
  rw [← e2] at h h1 h2
  obtain ⟨x, x1, x2⟩ := gI_get h
  rw [x2] at h1 h2
  exact ⟨k, l, x, e1, x1, h1, h2⟩
theorem gI_32 (l : List Int32) (i : Nat) : lo32 ≤ gI l i ∧ gI l i ≤ hi32 := in32 _
theorem recCases_ok {σ : SH} {t ti a ai b bi c ci : Nat} (h : okRec (gI (arrI (σ.getD t (.inl (0, [])))) ti) (gI (arrI (σ.getD a (.inl (0, [])))) ai) (gI (arrI (σ.getD b (.inl (0, [])))) bi) (gI (arrI (σ.getD c (.inl (0, [])))) ci)) (l1 : ti < (arrI (σ.getD t (.inl (0, [])))).length) (l2 : ai < (arrI (σ.getD a (.inl (0, [])))).length) (l3 : bi < (arrI (σ.getD b (.inl (0, [])))).length) (l4 : ci < (arrI (σ.getD c (.inl (0, [])))).length) : ∃ els ∈ recCases t ti a ai b bi c ci, ∀ e ∈ els, elOk σ e := by
  obtain ⟨n, hn⟩ : ∃ n : Nat, gI (arrI (σ.getD t (.inl (0, [])))) ti = n := ⟨(gI (arrI (σ.getD t (.inl (0, [])))) ti).toNat, by have := h.1.1; omega⟩
  have hle := h.1.2
  refine ⟨recEls t ti a ai b bi c ci n, List.mem_map.mpr ⟨n, List.mem_range.mpr (by omega), rfl⟩, fun e he => ?_⟩
  have hb := rgB_ok h hn (gI_32 _ _)
  have hc := rgC_ok h hn (gI_32 _ _)
  simp only [recEls, List.mem_cons, List.not_mem_nil, or_false] at he
  rcases he with rfl | rfl | rfl | rfl
  · exact el_of l1 (by rw [hn]; exact Int.le_refl _) (by rw [hn]; exact Int.le_refl _)
  · exact el_of l2 h.2.1.1 h.2.1.2
  · exact el_of l3 hb.1 hb.2
  · exact el_of l4 hc.1 hc.2
/-- the hint at a place: the step (of the class's program, of the model's row), the fault, the lanes; by the value of a local -/
noncomputable def divL (e : Ln) (b d : Int) : Ln := (Int.ediv (e.1 - b) d, e.2.map (fun q => (q.1, Int.ediv q.2 d)))
noncomputable def srcV (loc : Nat) (lv : AL) (A : AH) : Option AV := bif Nat.ble 300 loc then (match alGet (Nat.mod loc 100) lv with
  | some (.inl (false, e)) => bif Nat.blt loc 400 then some (.inl (false, divL e 200 4)) else bif Nat.blt loc 500 then some (.inl (false, divL e 792 5)) else some (.inl (false, divL e 692 3))
  | _ => none) else bif Nat.blt loc 100 then alGet loc lv else match alGet 0 lv with
  | some (.inr (.inl (some q))) => (match A[q]? with
    | some (.inl (_, as)) => as[Nat.sub loc 100]?
    | _ => none)
  | _ => none
noncomputable def hFocus (at_ : Nat) (loc : Nat) (kd : Nat) : HF := fun pc lv A pr nx tab fs => bif Nat.beq pc at_ then (match srcV loc lv A with
  | some (.inl (false, e)) => (match cst tab e with
    | some (.ofNat v) => (match pr.find? (fun p => Nat.beq p.1 kd), kd with
      | some (_, [t, a, b, c], []), 0 => bif Nat.blt v 60 then allCases A pr nx tab fs (recCases t v a v b v c v) else none
      | some (_, [q], []), 1 => bif Nat.blt v 120 then allCases A pr nx tab fs (recCases q (200 + 4 * v) q (201 + 4 * v) q (202 + 4 * v) q (203 + 4 * v)) else none
      | _, _ => none)
    | _ => none)
  | _ => none) else none
theorem hFocus_ok (at_ loc kd : Nat) : HFOk PPk (hFocus at_ loc kd) := by
  intro pc lv A pr nx tab fs L ρ clv cσ h hr hp
  have hr' : ∀ ρ', agr2 nx ρ ρ' → tOk ρ' tab ∧ fOk ρ' fs ∧ rel2 (crel ρ') cσ A := fun ρ' ha => ⟨(hr ρ' ha).1, (hr ρ' ha).2.1, (hr ρ' ha).2.2.2⟩
  unfold hFocus at h
  cases h0 : Nat.beq pc at_ with
  | false => rw [h0] at h; cases h
  | true =>
    rw [h0] at h
    simp only [cond_true] at h
    split at h
    · split at h
      · rename_i v hv
        split at h
        · rename_i kk t a b c hf
          have hm := List.mem_of_find?_eq_some hf
          have hk0 := List.find?_some (p := fun p : PD => Nat.beq p.1 0) hf
          have hk := Nat.eq_of_beq_eq_true hk0
          try dsimp only at hk
          subst hk
          cases z : Nat.blt v 60 with
          | false => rw [z] at h; cases h
          | true =>
            rw [z] at h
            have hv' := blt_iff.mp z
            have hP : okProg _ _ _ _ := hp ρ agr2.rf _ hm
            exact allCases_ok hr' hp _ L (cT h) (recCases_ok (hP.2 v hv') (by rw [hP.1.1]; exact hv') (by rw [hP.1.2.1]; exact hv') (by rw [hP.1.2.2.1]; exact hv') (by rw [hP.1.2.2.2]; exact hv'))
        · rename_i kk q hf
          have hm := List.mem_of_find?_eq_some hf
          have hk0 := List.find?_some (p := fun p : PD => Nat.beq p.1 1) hf
          have hk := Nat.eq_of_beq_eq_true hk0
          try dsimp only at hk
          subst hk
          cases z : Nat.blt v 120 with
          | false => rw [z] at h; cases h
          | true =>
            rw [z] at h
            have hv' := blt_iff.mp z
            have hP : okSteps _ := hp ρ agr2.rf _ hm
            exact allCases_ok hr' hp _ L (cT h) (recCases_ok (hP.2 v hv') (by rw [hP.1]; omega) (by rw [hP.1]; omega) (by rw [hP.1]; omega) (by rw [hP.1]; omega))
        · cases h
      · cases h
    · cases h
