/-! ===== contracts out of runs ===== -/
noncomputable def aArgs : Nat → List AV → AL
  | _, [] => []
  | i, a :: r => (i, a) :: aArgs (bif Nat.beq (catA a) 2 then Nat.succ (Nat.succ i) else Nat.succ i) r
noncomputable def slLen : List AV → Nat
  | [] => 0
  | a :: r => Nat.add (bif Nat.beq (catA a) 2 then 2 else 1) (slLen r)
noncomputable def symsL : Nat → Nat → List Ln
  | 0, _ => []
  | c + 1, i => sL i :: symsL c (Nat.succ i)
noncomputable def retA (mrt : Option FieldType) (tab : Tb) (fs : List Ln) (r : Option AV) : Bool := match mrt, r with
  | none, none => true
  | some .int, some (.inl (false, _)) => true
  | some .boolean, some (.inl (false, e)) => inF tab fs 0 1 e
  | some .long, some (.inl (true, _)) => true
  | _, _ => false
/-- a cheap look ahead: the answer's constant, the bounds of the entry's symbols -/
noncomputable def preT_a0 :=
  fun (ih : Bool) (tab : Tb) (fs : List Ln) (lo_3111 : Int) (hi_3112 : Int) e_3113 => ((Bool.rec (motive := fun _ => Bool) false (ih) (inF tab fs lo_3111 hi_3112 e_3113)) : Bool)
noncomputable def preT (nx0 : Nat) (G : List Ln) (tab : Tb) (fs : List Ln) : TbL → Bool :=
  fun e_0 => List.rec (motive := fun _ => Bool) true (fun h_0 t_0 ih => (Prod.rec (motive := fun _ => Bool) (fun s_3109 x_3110 => (Prod.rec (motive := fun _ => Bool) (fun lo_3111 hi_3112 => (Bool.rec (motive := fun _ => Bool) (ih) (Option.rec (motive := fun _ => Bool) (ih) (fun e_3113 => (preT_a0 ih tab fs lo_3111 hi_3112 e_3113)) (nthQ G s_3109)) (Nat.blt s_3109 nx0))) x_3110)) h_0)) e_0 
theorem preT_def (nx0 : Nat) (G : List Ln) (tab : Tb) (fs : List Ln) (e_0 : TbL) : preT nx0 G tab fs e_0 = (match e_0 with
  | [] => true
  | (s, lo, hi) :: r => bif Nat.blt s nx0 then (match G[s]? with
    | some e => bif inF tab fs lo hi e then preT nx0 G tab fs r else false
    | none => preT nx0 G tab fs r) else preT nx0 G tab fs r) := by
  cases e_0 with
  | nil =>
    show true = _
    try simp only [iAddQ_eq, iMulQ_eq, iNegQ_eq, lenQ_eq, nthQ_eq, setQ_eq, appQ_eq, mapQ_eq, allQ_eq, anyQ_eq, dropQ_eq, takeQ_eq, revQ_eq, getDQ_eq, optLQ_eq, brecC]
    all_goals rfl
  | cons h_0 t_0 =>
    show (Prod.rec (motive := fun _ => Bool) (fun s_3114 x_3115 => (Prod.rec (motive := fun _ => Bool) (fun lo_3116 hi_3117 => (Bool.rec (motive := fun _ => Bool) (preT nx0 G tab fs t_0) (Option.rec (motive := fun _ => Bool) (preT nx0 G tab fs t_0) (fun e_3118 => (Bool.rec (motive := fun _ => Bool) false (preT nx0 G tab fs t_0) (inF tab fs lo_3116 hi_3117 e_3118))) (nthQ G s_3114)) (Nat.blt s_3114 nx0))) x_3115)) h_0) = _
    try simp only [iAddQ_eq, iMulQ_eq, iNegQ_eq, lenQ_eq, nthQ_eq, setQ_eq, appQ_eq, mapQ_eq, allQ_eq, anyQ_eq, dropQ_eq, takeQ_eq, revQ_eq, getDQ_eq, optLQ_eq, brecC]
    all_goals
      cases h_0 with
      | mk y_3119 y_3120 =>
        try dsimp only [cond_false, cond_true]
        all_goals
          cases y_3120 with
          | mk y_3121 y_3122 =>
            try dsimp only [cond_false, cond_true]
            all_goals
              cases hq_3 : (Nat.blt y_3119 nx0) with
              | false =>
                try dsimp only [cond_false, cond_true]
                all_goals rfl
              | true =>
                try dsimp only [cond_false, cond_true]
                all_goals
                  cases hq_4 : G[y_3119]? with
                  | none =>
                    try dsimp only [cond_false, cond_true]
                    all_goals rfl
                  | some y_3123 =>
                    try dsimp only [cond_false, cond_true]
                    all_goals
                      cases hq_5 : (inF tab fs y_3121 y_3122 y_3123) with
                      | false =>
                        try dsimp only [cond_false, cond_true]
                        all_goals rfl
                      | true =>
                        try dsimp only [cond_false, cond_true]
                        all_goals rfl
noncomputable def preV (p a : List AV) : Bool :=
  (List.rec (motive := fun _ => Bool) true (fun x_3148 x_3149 _ => (Sum.rec (motive := fun _ => Bool) (fun x_3150 => (Prod.rec (motive := fun _ => Bool) (fun x_3152 x_3153 => (Prod.rec (motive := fun _ => Bool) (fun c_3154 x_3155 => (List.rec (motive := fun _ => Bool) (List.rec (motive := fun _ => Bool) (List.rec (motive := fun _ => Bool) true (fun x_3160 x_3161 _ => (Sum.rec (motive := fun _ => Bool) (fun x_3162 => (Prod.rec (motive := fun _ => Bool) (fun x_3164 x_3165 => (Prod.rec (motive := fun _ => Bool) (fun c_3166 x_3167 => (List.rec (motive := fun _ => Bool) (List.rec (motive := fun _ => Bool) (eqI c_3154 c_3166) (fun x_3170 x_3171 _ => true) x_3161) (fun x_3168 x_3169 _ => true) x_3167)) x_3165)) x_3162)) (fun x_3163 => true) x_3160)) a) (fun x_3158 x_3159 _ => true) x_3149) (fun x_3156 x_3157 _ => true) x_3155)) x_3153)) x_3150)) (fun x_3151 => true) x_3148)) p)
theorem preV_def (p a : List AV) : preV p a = (match p, a with
  | [.inl (_, (c, []))], [.inl (_, (c', []))] => eqI c c'
  | _, _ => true) := by
  show (List.rec (motive := fun _ => Bool) true (fun x_3124 x_3125 _ => (Sum.rec (motive := fun _ => Bool) (fun x_3126 => (Prod.rec (motive := fun _ => Bool) (fun x_3128 x_3129 => (Prod.rec (motive := fun _ => Bool) (fun c_3130 x_3131 => (List.rec (motive := fun _ => Bool) (List.rec (motive := fun _ => Bool) (List.rec (motive := fun _ => Bool) true (fun x_3136 x_3137 _ => (Sum.rec (motive := fun _ => Bool) (fun x_3138 => (Prod.rec (motive := fun _ => Bool) (fun x_3140 x_3141 => (Prod.rec (motive := fun _ => Bool) (fun c_3142 x_3143 => (List.rec (motive := fun _ => Bool) (List.rec (motive := fun _ => Bool) (eqI c_3130 c_3142) (fun x_3146 x_3147 _ => true) x_3137) (fun x_3144 x_3145 _ => true) x_3143)) x_3141)) x_3138)) (fun x_3139 => true) x_3136)) a) (fun x_3134 x_3135 _ => true) x_3125) (fun x_3132 x_3133 _ => true) x_3131)) x_3129)) x_3126)) (fun x_3127 => true) x_3124)) p) = _
  all_goals
    cases p with
    | nil =>
      try dsimp only [cond_false, cond_true]
      all_goals rfl
    | cons y_3172 y_3173 =>
      try dsimp only [cond_false, cond_true]
      all_goals
        cases y_3172 with
        | inl y_3174 =>
          try dsimp only [cond_false, cond_true]
          all_goals
            cases y_3174 with
            | mk y_3175 y_3176 =>
              try dsimp only [cond_false, cond_true]
              all_goals
                cases y_3176 with
                | mk y_3177 y_3178 =>
                  try dsimp only [cond_false, cond_true]
                  all_goals
                    cases y_3178 with
                    | nil =>
                      try dsimp only [cond_false, cond_true]
                      all_goals
                        cases y_3173 with
                        | nil =>
                          try dsimp only [cond_false, cond_true]
                          all_goals
                            cases a with
                            | nil =>
                              try dsimp only [cond_false, cond_true]
                              all_goals rfl
                            | cons y_3179 y_3180 =>
                              try dsimp only [cond_false, cond_true]
                              all_goals
                                cases y_3179 with
                                | inl y_3181 =>
                                  try dsimp only [cond_false, cond_true]
                                  all_goals
                                    cases y_3181 with
                                    | mk y_3182 y_3183 =>
                                      try dsimp only [cond_false, cond_true]
                                      all_goals
                                        cases y_3183 with
                                        | mk y_3184 y_3185 =>
                                          try dsimp only [cond_false, cond_true]
                                          all_goals
                                            cases y_3185 with
                                            | nil =>
                                              try dsimp only [cond_false, cond_true]
                                              all_goals
                                                cases y_3180 with
                                                | nil =>
                                                  try dsimp only [cond_false, cond_true]
                                                  all_goals rfl
                                                | cons y_3186 y_3187 =>
                                                  try dsimp only [cond_false, cond_true]
                                                  all_goals rfl
                                            | cons y_3188 y_3189 =>
                                              try dsimp only [cond_false, cond_true]
                                              all_goals rfl
                                | inr y_3190 =>
                                  try dsimp only [cond_false, cond_true]
                                  all_goals rfl
                        | cons y_3191 y_3192 =>
                          try dsimp only [cond_false, cond_true]
                          all_goals rfl
                    | cons y_3193 y_3194 =>
                      try dsimp only [cond_false, cond_true]
                      all_goals rfl
        | inr y_3195 =>
          try dsimp only [cond_false, cond_true]
          all_goals rfl
noncomputable def preO (nx0 : Nat) (G : List Ln) (vs : List AV) (tab : Tb) (fs : List Ln) (o : Ot) : Bool :=
  (Bool.rec (motive := fun _ => Bool) false (preT nx0 G tab fs o.1.2.1) (preV o.1.2.2.2.1 vs))
theorem preO_def (nx0 : Nat) (G : List Ln) (vs : List AV) (tab : Tb) (fs : List Ln) (o : Ot) : preO nx0 G vs tab fs o = bif preV o.1.2.2.2.1 vs then preT nx0 G tab fs o.1.2.1 else false := by
  show (Bool.rec (motive := fun _ => Bool) false (preT nx0 G tab fs o.1.2.1) (preV o.1.2.2.2.1 vs)) = _
  try simp only [iAddQ_eq, iMulQ_eq, iNegQ_eq, lenQ_eq, nthQ_eq, setQ_eq, appQ_eq, mapQ_eq, allQ_eq, anyQ_eq, dropQ_eq, takeQ_eq, revQ_eq, getDQ_eq, optLQ_eq, brecC]
  all_goals
    cases hq_1 : (preV o.1.2.2.2.1 vs) with
    | false =>
      try dsimp only [cond_false, cond_true]
      all_goals rfl
    | true =>
      try dsimp only [cond_false, cond_true]
      all_goals rfl
noncomputable def oneOut_a0 :=
  fun (cb : Nat) (o : Ot) (ca : Nat) => ((Bool.rec (motive := fun _ => Bool) false (Nat.ble cb o.2.2) (Nat.ble ca o.2.1)) : Bool)
noncomputable def oneOut_a1 :=
  fun (cb : Nat) (o : Ot) (ca : Nat) (nx0 : Nat) (tab : Tb) (fs : List Ln) (θ : Th) (vs : List AV) (A : AH) (pr : List PD) => ((Bool.rec (motive := fun _ => Bool) false (oneOut_a0 cb o ca) (instPR nx0 tab fs θ o.1 vs A pr)) : Bool)
noncomputable def oneOut (nx0 : Nat) (G : List Ln) (vs : List AV) (A : AH) (pr : List PD) (tab : Tb) (fs : List Ln) (ca cb : Nat) (o : Ot) (θ : Th) : Bool :=
  (Bool.rec (motive := fun _ => Bool) false (oneOut_a1 cb o ca nx0 tab fs θ vs A pr) (chkGR nx0 tab fs θ (symsL nx0 (nat_lit 0)) G))
theorem oneOut_def (nx0 : Nat) (G : List Ln) (vs : List AV) (A : AH) (pr : List PD) (tab : Tb) (fs : List Ln) (ca cb : Nat) (o : Ot) (θ : Th) : oneOut nx0 G vs A pr tab fs ca cb o θ = bif chkGR nx0 tab fs θ (symsL nx0 0) G then (bif instPR nx0 tab fs θ o.1 vs A pr then (bif Nat.ble ca o.2.1 then Nat.ble cb o.2.2 else false) else false) else false := by
  show (Bool.rec (motive := fun _ => Bool) false (Bool.rec (motive := fun _ => Bool) false (Bool.rec (motive := fun _ => Bool) false (Nat.ble cb o.2.2) (Nat.ble ca o.2.1)) (instPR nx0 tab fs θ o.1 vs A pr)) (chkGR nx0 tab fs θ (symsL nx0 (nat_lit 0)) G)) = _
  try simp only [iAddQ_eq, iMulQ_eq, iNegQ_eq, lenQ_eq, nthQ_eq, setQ_eq, appQ_eq, mapQ_eq, allQ_eq, anyQ_eq, dropQ_eq, takeQ_eq, revQ_eq, getDQ_eq, optLQ_eq, brecC]
  all_goals
    cases hq_1 : (chkGR nx0 tab fs θ ((symsL nx0 0)) G) with
    | false =>
      try dsimp only [cond_false, cond_true]
      all_goals rfl
    | true =>
      try dsimp only [cond_false, cond_true]
      all_goals
        cases hq_2 : (instPR nx0 tab fs θ o.1 vs A pr) with
        | false =>
          try dsimp only [cond_false, cond_true]
          all_goals rfl
        | true =>
          try dsimp only [cond_false, cond_true]
          all_goals
            cases hq_3 : (Nat.ble ca o.2.1) with
            | false =>
              try dsimp only [cond_false, cond_true]
              all_goals rfl
            | true =>
              try dsimp only [cond_false, cond_true]
              all_goals rfl
noncomputable def anyOut_a0 :=
  fun (nx0 : Nat) (tab : Tb) (fs : List Ln) (pr : List PD) (G : List Ln) (h_0 : Ot) (vs : List AV) (A : AH) (ca : Nat) (cb : Nat) => ((withR nx0 (uniP tab fs pr (uniHR nx0 (uniVs (uniGR nx0 (symsL nx0 (nat_lit 0)) G) h_0.1.2.2.2.1 vs) h_0.1.2.2.2.2.1 A) h_0.1.2.2.2.2.2) (oneOut nx0 G vs A pr tab fs ca cb h_0)) : Bool)
noncomputable def anyOut_a1 :=
  fun (ih : Bool) (nx0 : Nat) (tab : Tb) (fs : List Ln) (pr : List PD) (G : List Ln) (h_0 : Ot) (vs : List AV) (A : AH) (ca : Nat) (cb : Nat) => ((Bool.rec (motive := fun _ => Bool) (ih) true (Bool.rec (motive := fun _ => Bool) false (anyOut_a0 nx0 tab fs pr G h_0 vs A ca cb) (preO nx0 G vs tab fs h_0))) : Bool)
noncomputable def anyOut (nx0 : Nat) (G : List Ln) (vs : List AV) (A : AH) (pr : List PD) (tab : Tb) (fs : List Ln) (ca cb : Nat) : List Ot → Bool :=
  fun e_0 => List.rec (motive := fun _ => Bool) false (fun h_0 t_0 ih => (anyOut_a1 ih nx0 tab fs pr G h_0 vs A ca cb)) e_0 
theorem anyOut_def (nx0 : Nat) (G : List Ln) (vs : List AV) (A : AH) (pr : List PD) (tab : Tb) (fs : List Ln) (ca cb : Nat) (e_0 : List Ot) : anyOut nx0 G vs A pr tab fs ca cb e_0 = (match e_0 with
  | [] => false
  | o :: r => bif (bif preO nx0 G vs tab fs o then withR nx0 (uniP tab fs pr (uniHR nx0 (uniVs (uniGR nx0 (symsL nx0 0) G) o.1.2.2.2.1 vs) o.1.2.2.2.2.1 A) o.1.2.2.2.2.2) (oneOut nx0 G vs A pr tab fs ca cb o) else false) then true else anyOut nx0 G vs A pr tab fs ca cb r) := by
  cases e_0 with
  | nil =>
    show false = _
    try simp only [iAddQ_eq, iMulQ_eq, iNegQ_eq, lenQ_eq, nthQ_eq, setQ_eq, appQ_eq, mapQ_eq, allQ_eq, anyQ_eq, dropQ_eq, takeQ_eq, revQ_eq, getDQ_eq, optLQ_eq, brecC]
    all_goals rfl
  | cons h_0 t_0 =>
    show (Bool.rec (motive := fun _ => Bool) (anyOut nx0 G vs A pr tab fs ca cb t_0) true (Bool.rec (motive := fun _ => Bool) false (withR nx0 (uniP tab fs pr (uniHR nx0 (uniVs (uniGR nx0 (symsL nx0 (nat_lit 0)) G) h_0.1.2.2.2.1 vs) h_0.1.2.2.2.2.1 A) h_0.1.2.2.2.2.2) (oneOut nx0 G vs A pr tab fs ca cb h_0)) (preO nx0 G vs tab fs h_0))) = _
    try simp only [iAddQ_eq, iMulQ_eq, iNegQ_eq, lenQ_eq, nthQ_eq, setQ_eq, appQ_eq, mapQ_eq, allQ_eq, anyQ_eq, dropQ_eq, takeQ_eq, revQ_eq, getDQ_eq, optLQ_eq, brecC]
    all_goals
      cases hq_1 : ((bif (preO nx0 G vs tab fs h_0) then (withR nx0 ((uniP tab fs pr ((uniHR nx0 ((uniVs ((uniGR nx0 ((symsL nx0 0)) G)) h_0.1.2.2.2.1 vs)) h_0.1.2.2.2.2.1 A)) h_0.1.2.2.2.2.2)) ((oneOut nx0 G vs A pr tab fs ca cb h_0))) else false)) with
      | false =>
        try dsimp only [cond_false, cond_true]
        all_goals rfl
      | true =>
        try dsimp only [cond_false, cond_true]
        all_goals rfl
noncomputable def finC_a0 :=
  fun (nx0 : Nat) (G : List Ln) r A pr tab fs ca cb (outs : List Ot) => (anyOut nx0 G (optLQ r) A pr tab fs ca cb outs)
noncomputable def finC (mrt : Option FieldType) (outs : List Ot) (nx0 : Nat) (G : List Ln) : FN :=
  (fun r A pr tab fs ca cb => (Bool.rec (motive := fun _ => _) false (finC_a0 nx0 G r A pr tab fs ca cb outs) (retA mrt tab fs r)))
theorem finC_def (mrt : Option FieldType) (outs : List Ot) (nx0 : Nat) (G : List Ln) : finC mrt outs nx0 G = fun r A pr tab fs ca cb => bif retA mrt tab fs r then anyOut nx0 G r.toList A pr tab fs ca cb outs else false := by
  show (fun r A pr tab fs ca cb => (Bool.rec (motive := fun _ => _) false (anyOut nx0 G (optLQ r) A pr tab fs ca cb outs) (retA mrt tab fs r))) = _
  try simp only [iAddQ_eq, iMulQ_eq, iNegQ_eq, lenQ_eq, nthQ_eq, setQ_eq, appQ_eq, mapQ_eq, allQ_eq, anyQ_eq, dropQ_eq, takeQ_eq, revQ_eq, getDQ_eq, optLQ_eq, brecC]
  all_goals rfl
noncomputable def outsSc (nx0 : Nat) : List Ot → Bool
  | [] => true
  | o :: r => bif scP o.1 then (bif Nat.ble nx0 o.1.1 then outsSc nx0 r else false) else false
noncomputable def ptsAll (k : PE → Bool) : List PE → Bool
  | [] => true
  | p :: r => bif k p then ptsAll k r else false
/-- a symbol's values one by one: the symbol, the least, how many -/
abbrev SP : Type := Option (Nat × Nat × Nat)
noncomputable def splA (sp : SP) (tab : Tb) (f : Tb → Bool) : Bool := match sp with
  | none => f tab
  | some (s, lo, c) => match tbLk s tab with
    | some (l, h) => bif leI (.ofNat lo) l then (bif leI h (Int.add (.ofNat lo) (Int.add (.ofNat c) (.negSucc 0))) then loopJ (fun v => f (tbIns s (.ofNat v) (.ofNat v) tab)) c lo else false) else false
    | none => false
/-- the check of a contract from the entry -/
noncomputable def enCt (C : Ct) (env : List Ct) (pts : List PE) (sp : SP) (hn : HN) (fuel : Nat) : Bool := match meths[C.1]? with
  | none => false
  | some me => bif Nat.ble (slLen C.2.2.1.2.2.2.1) (mMl me) then (bif decide (C.2.2.1.2.2.2.1.length = (if mKd me = 2 then mNa me else mNa me + 1)) then (bif C.2.2.1.2.2.2.1.all (okVA C.2.2.1.2.2.2.2.1.length) then (bif scP C.2.2.1 then (bif outsSc C.2.2.1.1 C.2.2.2 then
    splA sp (tbOf C.2.2.1.2.1) (fun tab => go none (mKd me == 1) (mOw me) (mMl me) (mTb me) env pts (symsL C.2.2.1.1 0) none (finC (mRt me) C.2.2.2 C.2.2.1.1 (symsL C.2.2.1.1 0)) hn fuel true 0 [] (aArgs 0 C.2.2.1.2.2.2.1) C.2.2.1.2.2.2.2.1 C.2.2.1.2.2.2.2.2 C.2.2.1.1 tab C.2.2.1.2.2.1 0 0) else false) else false) else false) else false) else false
/-- from a point -/
noncomputable def ptCt (C : Ct) (env : List Ct) (pts : List PE) (hn : HN) (fuel : Nat) (p : PE) : Bool := match meths[C.1]? with
  | none => false
  | some me => bif rkNn p then runPt false (mKd me == 1) (mOw me) (mMl me) (mTb me) env pts (finC (mRt me) C.2.2.2 C.2.2.1.1) hn fuel p else false
section CT
variable {PP : Nat → List (List Int32) → List Int → Prop}
theorem aArgs_ge {as : List AV} : ∀ {i : Nat}, ∀ q ∈ aArgs i as, i ≤ q.1 := by
  induction as with
  | nil => intro i q hq; cases hq
  | cons a r ih =>
    intro i q hq
    unfold aArgs at hq
    rcases List.mem_cons.mp hq with rfl | hq
    · exact Nat.le_refl _
    · cases h : Nat.beq (catA a) 2 with
      | true =>
        rw [h] at hq
        have := ih q hq
        simp only [cond_true] at this
        omega
      | false =>
        rw [h] at hq
        have := ih q hq
        simp only [cond_false] at this
        omega
theorem aArgs_ok {ρ : Nat → Int} {vs : List Value} {as : List AV} (h : rel2 (vrel ρ) vs as) : ∀ i, lvR ρ (lv_args i vs) (aArgs i as) := by
  induction as generalizing vs with
  | nil => intro i q hq; cases hq
  | cons a r ih =>
    intro i q hq
    obtain ⟨v, vs', e, h1, h2⟩ := rel2_cons h
    subst e
    have hc := catA_ok h1
    unfold aArgs at hq
    show ∃ w, lvGet ((i, v) :: lv_args (if v.category = 2 then i + 2 else i + 1) vs') q.1 = some w ∧ vrel ρ w q.2
    rcases List.mem_cons.mp hq with rfl | hq
    · exact ⟨v, by rw [lvGet_cons, if_pos rfl], h1⟩
    · cases hb : Nat.beq (catA a) 2 with
      | true =>
        rw [hb] at hq
        have h3 := Nat.eq_of_beq_eq_true hb
        rw [if_pos (hc.trans h3)]
        have hge := aArgs_ge q hq
        simp only [cond_true, cond_false] at hge
        obtain ⟨w, w1, w2⟩ := ih h2 _ q hq
        exact ⟨w, by rw [lvGet_cons, if_neg (by omega)]; exact w1, w2⟩
      | false =>
        rw [hb] at hq
        have h3 : ¬ v.category = 2 := fun e => by rw [← hc, e] at hb; cases hb
        rw [if_neg h3]
        have hge := aArgs_ge q hq
        simp only [cond_true, cond_false] at hge
        obtain ⟨w, w1, w2⟩ := ih h2 _ q hq
        exact ⟨w, by rw [lvGet_cons, if_neg (by omega)]; exact w1, w2⟩
theorem slLen_ok {ρ : Nat → Int} {vs : List Value} {as : List AV} (h : rel2 (vrel ρ) vs as) : (lg_sl vs).length = slLen as := by
  induction as generalizing vs with
  | nil => rw [rel2_nil h]; rfl
  | cons a r ih =>
    obtain ⟨v, vs', e, h1, h2⟩ := rel2_cons h
    subst e
    have hc := catA_ok h1
    have e1 : lg_sl (v :: vs') = (if v.category = 2 then [.val v, .second] else [.val v]) ++ lg_sl vs' := rfl
    rw [e1, List.length_append, ih h2]
    show _ = Nat.add (bif Nat.beq (catA a) 2 then 2 else 1) (slLen r)
    cases hb : Nat.beq (catA a) 2 with
    | true => rw [if_pos (hc.trans (Nat.eq_of_beq_eq_true hb))]; rfl
    | false => rw [if_neg (fun e => by rw [← hc, e] at hb; cases hb)]; rfl
theorem lvOk_args {n : Nat} {vs : List Value} (h : vs.all (okV n) = true) : ∀ i, lvOk n (lv_args i vs) := by
  induction vs with
  | nil => intro i q hq; cases hq
  | cons v r ih =>
    rw [List.all_cons, Bool.and_eq_true] at h
    intro i q hq
    rcases List.mem_cons.mp hq with rfl | hq
    · exact h.1
    · exact ih h.2 _ q hq
theorem symsL_sc {n : Nat} : ∀ (c i : Nat), i + c ≤ n → (symsL c i).all (scL n) = true := by
  intro c
  induction c with
  | zero => intro i _; rfl
  | succ c ih =>
    intro i h
    show (scL n (sL i) && (symsL c (Nat.succ i)).all (scL n)) = true
    rw [ih (Nat.succ i) (by omega), Bool.and_true]
    rw [scL_def]
    show scT n ((i, 1) :: []) = true
    rw [scT_def]
    try dsimp only
    rw [blt_iff.mpr (by omega)]
    rfl
theorem symsL_agr {ρ ρ' : Nat → Int} : ∀ (c i : Nat), (symsL c i).map (ev ρ') = (symsL c i).map (ev ρ) → ∀ j, i ≤ j → j < i + c → ρ' j = ρ j := by
  intro c
  induction c with
  | zero => intro i _ j h1 h2; omega
  | succ c ih =>
    intro i h j h1 h2
    have h' : ev ρ' (sL i) :: (symsL c (Nat.succ i)).map (ev ρ') = ev ρ (sL i) :: (symsL c (Nat.succ i)).map (ev ρ) := h
    simp only [List.cons.injEq, ev_s] at h'
    by_cases hj : j = i
    · rw [hj]; exact h'.1
    · exact ih (Nat.succ i) h'.2 j (by omega) (by omega)
theorem outsSc_ok {n : Nat} {l : List Ot} (h : outsSc n l = true) : ∀ o ∈ l, scP o.1 = true ∧ n ≤ o.1.1 := by
  induction l with
  | nil => intro o ho; cases ho
  | cons a r ih =>
    obtain ⟨h1, h2⟩ := cand h
    obtain ⟨h3, h4⟩ := cand h2
    intro o ho
    rcases List.mem_cons.mp ho with rfl | ho
    · exact ⟨h1, Nat.le_of_ble_eq_true h3⟩
    · exact ih h4 o ho
theorem ptsAll_ok {k : PE → Bool} {l : List PE} (h : ptsAll k l = true) : ∀ p ∈ l, k p = true := by
  induction l with
  | nil => intro o ho; cases ho
  | cons a r ih =>
    obtain ⟨h1, h2⟩ := cand h
    intro o ho
    rcases List.mem_cons.mp ho with rfl | ho
    · exact h1
    · exact ih h2 o ho
theorem retA_ok {ρ : Nat → Int} {mrt : Option FieldType} {tab : Tb} {fs : List Ln} (ht : tOk ρ tab) (hf : fOk ρ fs) {r : Option AV} {v : Option Value} (hv : rel2 (vrel ρ) v.toList r.toList) (h : retA mrt tab fs r = true) : retOk mrt v = true := by
  unfold retA at h
  split at h
  · cases v with
    | none => rfl
    | some v => exact hv.elim
  · cases v with
    | none => exact hv.elim
    | some v =>
      obtain ⟨x, e1, -⟩ := vI_inv hv.1
      subst e1
      rfl
  · cases v with
    | none => exact hv.elim
    | some v =>
      obtain ⟨x, e1, hx⟩ := vI_inv hv.1
      subst e1
      have h2 := inF_ok ht hf h
      rw [← hx] at h2
      show decide (x &&& 1 = x) = true
      exact decide_eq_true (nar_bool h2)
  · cases v with
    | none => exact hv.elim
    | some v =>
      obtain ⟨x, e1, -⟩ := vJ_inv hv.1
      subst e1
      rfl
  · cases h
/-- what a contract's end says -/
noncomputable def QC (PP : Nat → List (List Int32) → List Int → Prop) (mrt : Option FieldType) (outs : List Ot) (nx0 : Nat) (G0 : List Int) (R : Res) : Prop :=
  retOk mrt R.1 = true ∧ ∃ o ∈ outs, ∃ ρ', (symsL nx0 0).map (ev ρ') = G0 ∧ PtOk PP ρ' o.1 R.1.toList R.2.1 ∧ R.2.2.1 ≤ o.2.1 ∧ R.2.2.2 ≤ o.2.2
theorem finC_ok {mrt : Option FieldType} {outs : List Ot} {nx0 : Nat} {G0 : List Int} (G : List Ln) : FinOk PP G G0 (QC PP mrt outs nx0 G0) (finC mrt outs nx0 G) := by
  intro ρ r A pr tab fs ca cb v σ cca ccb h ht hf hv hA hG hp h1 h2
  rw [finC_def] at h
  obtain ⟨c1, c2⟩ := cand h
  refine ⟨retA_ok ht hf hv c1, ?_⟩
  have key : ∀ l : List Ot, anyOut nx0 G r.toList A pr tab fs ca cb l = true → ∃ o ∈ l, ∃ ρ', (symsL nx0 0).map (ev ρ') = G0 ∧ PtOk PP ρ' o.1 v.toList σ ∧ cca ≤ o.2.1 ∧ ccb ≤ o.2.2 := by
    intro l
    induction l with
    | nil => intro h; cases h
    | cons o l ih =>
      intro h
      rw [anyOut_def] at h
      try dsimp only at h
      cases hm : (bif preO nx0 G r.toList tab fs o then withR nx0 (uniP tab fs pr (uniHR nx0 (uniVs (uniGR nx0 (symsL nx0 0) G) o.1.2.2.2.1 r.toList) o.1.2.2.2.2.1 A) o.1.2.2.2.2.2) (oneOut nx0 G r.toList A pr tab fs ca cb o) else false) with
      | false =>
        rw [hm] at h
        obtain ⟨o', o1, o2⟩ := ih h
        exact ⟨o', List.mem_cons_of_mem _ o1, o2⟩
      | true =>
        obtain ⟨-, hm⟩ := cand hm
        obtain ⟨θ, hm⟩ := withR_ok hm
        rw [oneOut_def] at hm
        obtain ⟨d1, d2⟩ := cand hm
        obtain ⟨d3, d4⟩ := cand d2
        obtain ⟨d5, d6⟩ := cand d4
        exact ⟨o, List.mem_cons_self, _, (chkGR_ok ht hf d1).trans hG, instPR_ok ht hf hv hA hp d3, Nat.le_trans h1 (Nat.le_of_ble_eq_true d5), Nat.le_trans h2 (Nat.le_of_ble_eq_true d6)⟩
  exact key outs c2
/-- points that are good by other means, whatever the numbers carried along -/
noncomputable def ExtOk (PP : Nat → List (List Int32) → List Int → Prop) (C : Ct) (d : Nat) (ext : List PE) : Prop :=
  ∀ me, meths[C.1]? = some me → ∀ G0, ∀ p ∈ ext, PGood PP none (mKd me == 1) (mOw me) (mMl me) (mTb me) d G0 (QC PP (mRt me) C.2.2.2 C.2.2.1.1 G0) (fun _ _ => True) p
theorem splA_ok {ρ : Nat → Int} {sp : SP} {tab : Tb} {f : Tb → Bool} (ht : tOk ρ tab) (h : splA sp tab f = true) : ∃ tab', f tab' = true ∧ (∀ ρ', tOk ρ' tab → (∀ s, ρ' s = ρ s ∨ sp.map (fun q => q.1) ≠ some s) → tOk ρ' tab') := by
  unfold splA at h
  split at h
  · exact ⟨tab, h, fun ρ' h1 _ => h1⟩
  · rename_i s lo c
    split at h
    · rename_i l u hs
      obtain ⟨g1, h⟩ := cand h
      obtain ⟨g2, h⟩ := cand h
      have q1 := leI_le g1
      have q2 := leI_le g2
      have q3 := tbLk_ok ht hs
      have q2' : u ≤ (lo : Int) + ((c : Int) + -1) := q2
      have q1' : (lo : Int) ≤ l := q1
      try dsimp only at q3
      obtain ⟨v, hv⟩ : ∃ v : Nat, ρ s = v := ⟨(ρ s).toNat, by omega⟩
      have h2 := loopJ_ok c lo h v (by omega) (by omega)
      refine ⟨_, h2, fun ρ' h3 h4 => ?_⟩
      have h5 : ρ' s = ρ s := (h4 s).resolve_right (fun q => q rfl)
      exact tOk_cons h3 (by rw [h5, hv]; exact Int.le_refl _) (by rw [h5, hv]; exact Int.le_refl _)
    · cases h
set_option maxHeartbeats 4000000 in
theorem ct_ok (hFP : FPok PP) {hn : HN} (hH : HintOk PP hn) {C : Ct} {env : List Ct} {pts ext : List PE} {sp : SP} {fuel d : Nat} (hd : C.2.1 = d + 1) (hE : ∀ C' ∈ env, ValidC PP C' ∧ C'.2.1 ≤ d) (hX : ExtOk PP C d ext) (hsp : ∀ q, sp = some q → q.1 < C.2.2.1.1) {I0 : List Nat} (h : enCt C env (pkP (pts ++ ext) I0) sp hn fuel = true) (hp : ∀ p ∈ pts, ∃ I, ptCt C env (pkP (pts ++ ext) I) hn fuel p = true) : ValidC PP C := by
  unfold enCt at h
  cases hme : meths[C.1]? with
  | none => simp only [hme] at h; cases h
  | some me =>
    simp only [hme] at h
    obtain ⟨c1, h⟩ := cand h
    obtain ⟨c2, h⟩ := cand h
    obtain ⟨c3, h⟩ := cand h
    obtain ⟨c4, h⟩ := cand h
    obtain ⟨c5, c6⟩ := cand h
    refine ⟨outsSc_ok c5, fun ρ vs σ hpt => ?_⟩
    obtain ⟨p1, p2, p3, p4, p5⟩ := id hpt
    have hlen := rel2_len p4
    have hX' := hX me hme ((symsL C.2.2.1.1 0).map (ev ρ))
    have hp' : ∀ p ∈ pts, rkNn p = true ∧ ∃ ps, (∀ q ∈ ps, q ∈ pts ++ ext) ∧ runPt false (mKd me == 1) (mOw me) (mMl me) (mTb me) env ps (finC (mRt me) C.2.2.2 C.2.2.1.1) hn fuel p = true := fun p hq => by
      obtain ⟨I, this⟩ := hp p hq
      unfold ptCt at this
      simp only [hme] at this
      obtain ⟨a1, a2⟩ := cand this
      exact ⟨a1, _, pkP_mem, a2⟩
    have hpts := pts_ok (PP := PP) hFP hH (scr := none) (G0 := (symsL C.2.2.1.1 0).map (ev ρ)) (Q := QC PP (mRt me) C.2.2.2 C.2.2.1.1 ((symsL C.2.2.1.1 0).map (ev ρ))) (d := d) (law := false) rfl finC_ok hE (Or.inl rfl) hX' hp'
    obtain ⟨tab', c7, c8⟩ := splA_ok (tbOf_ok p1) c6
    have hgood := go_ok (PP := PP) hFP hH (scr := none) (scl := none) (G0 := (symsL C.2.2.1.1 0).map (ev ρ)) (rk := none) (K := 0) (finC_ok (symsL C.2.2.1.1 0)) hE (Or.inl rfl) (fun p hp => by
      intro ρ1 cst1 qs1 clv1 cσ1 cca1 ccb1 a1 a2 a3 a4 a5 a6 a7 a8
      exact hpts p (pkP_mem p hp) ρ1 cst1 qs1 clv1 cσ1 cca1 ccb1 a1 a2 a3 a4 a5 trivial a7 a8) fuel true ρ _ _ _ _ _ _ _ _ _ _ [] (lv_args 0 vs) σ 0 0 c7 ⟨fun ρ' ha => ?_, fun ρ' ha => (PtOk_agr c4 ha hpt).2.2.2.2, ?_⟩ (Nat.le_refl _) (Nat.le_refl _)
    · obtain ⟨R, hR1, hR2, oo, hoo, ρ', hG, hpo, hc, hs⟩ := hgood
      refine ⟨R, ?_, oo, hoo, ρ', fun i hi => symsL_agr _ 0 hG i (Nat.zero_le _) (by omega), hpo, hc, hs⟩
      rw [hd]
      exact Rn.of hme ⟨by rw [slLen_ok p3]; exact Nat.le_of_ble_eq_true c1, by rw [rel2_len p3]; exact of_decide_eq_true c2⟩ hR2 hR1
    · obtain ⟨q1, q2, q3, q4, q5⟩ := PtOk_agr c4 ha hpt
      refine ⟨c8 ρ' (tbOf_ok q1) (fun s => ?_), q2, trivial, aArgs_ok q3 0, q4, map_agr ha (symsL_sc _ _ (by omega)), trivial, fun r hr => by cases hr⟩
      by_cases hs : s < C.2.2.1.1
      · exact Or.inl (ha s hs)
      · refine Or.inr fun q => ?_
        cases sp with
        | none => cases q
        | some q' =>
          have h1 := hsp q' rfl
          cases q
          exact hs h1
    · refine lvOk_args ?_ 0
      rw [hlen]
      exact okVA_all p3 c3
theorem ext_nil {C : Ct} {d : Nat} : ExtOk PP C d [] := fun _ _ _ p hp => (by cases hp)
end CT
