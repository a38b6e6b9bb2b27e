/-! ===== new cells; the part of the heap that a call sees, and how it is put back ===== -/
noncomputable def okVsA (n : Nat) (a : AV) : Bool :=
  (Sum.rec (motive := fun _ => Bool) (fun x_1104 => true) (fun x_1105 => (Sum.rec (motive := fun _ => Bool) (fun x_1106 => (Option.rec (motive := fun _ => Bool) true (fun i_1108 => (Nat.blt i_1108 n)) x_1106)) (fun x_1107 => true) x_1105)) a)
theorem okVsA_def (n : Nat) (a : AV) : okVsA n a = (match a with
  | .inr (.inl (some i)) => Nat.blt i n
  | _ => true) := by
  show (Sum.rec (motive := fun _ => Bool) (fun x_1099 => true) (fun x_1100 => (Sum.rec (motive := fun _ => Bool) (fun x_1101 => (Option.rec (motive := fun _ => Bool) true (fun i_1103 => (Nat.blt i_1103 n)) x_1101)) (fun x_1102 => true) x_1100)) a) = _
  all_goals
    cases a with
    | inl y_1109 =>
      try dsimp only [cond_false, cond_true]
      all_goals rfl
    | inr y_1110 =>
      try dsimp only [cond_false, cond_true]
      all_goals
        cases y_1110 with
        | inl y_1111 =>
          try dsimp only [cond_false, cond_true]
          all_goals
            cases y_1111 with
            | none =>
              try dsimp only [cond_false, cond_true]
              all_goals rfl
            | some y_1112 =>
              try dsimp only [cond_false, cond_true]
              all_goals rfl
        | inr y_1113 =>
          try dsimp only [cond_false, cond_true]
          all_goals rfl
noncomputable def okOA (n : Nat) (o : Option Nat) : Bool :=
  (Option.rec (motive := fun _ => Bool) true (fun i_1115 => (Nat.blt i_1115 n)) o)
theorem okOA_def (n : Nat) (o : Option Nat) : okOA n o = (match o with
  | some i => Nat.blt i n
  | none => true) := by
  show (Option.rec (motive := fun _ => Bool) true (fun i_1114 => (Nat.blt i_1114 n)) o) = _
  all_goals
    cases o with
    | none =>
      try dsimp only [cond_false, cond_true]
      all_goals rfl
    | some y_1116 =>
      try dsimp only [cond_false, cond_true]
      all_goals rfl
noncomputable def okCA (n : Nat) (c : AC) : Bool :=
  (Sum.rec (motive := fun _ => Bool) (fun x_1127 => (Prod.rec (motive := fun _ => Bool) (fun x_1129 as_1130 => (allQ (okVsA n) as_1130)) x_1127)) (fun x_1128 => (Prod.rec (motive := fun _ => Bool) (fun x_1131 x_1132 => (Sum.rec (motive := fun _ => Bool) (fun x_1133 => true) (fun x_1134 => (Sum.rec (motive := fun _ => Bool) (fun x_1135 => true) (fun l_1136 => (allQ (okOA n) l_1136)) x_1134)) x_1132)) x_1128)) c)
theorem okCA_def (n : Nat) (c : AC) : okCA n c = (match c with
  | .inl (_, as) => as.all (okVsA n)
  | .inr (_, .inr (.inr l)) => l.all (okOA n)
  | _ => true) := by
  show (Sum.rec (motive := fun _ => Bool) (fun x_1117 => (Prod.rec (motive := fun _ => Bool) (fun x_1119 as_1120 => (allQ (okVsA n) as_1120)) x_1117)) (fun x_1118 => (Prod.rec (motive := fun _ => Bool) (fun x_1121 x_1122 => (Sum.rec (motive := fun _ => Bool) (fun x_1123 => true) (fun x_1124 => (Sum.rec (motive := fun _ => Bool) (fun x_1125 => true) (fun l_1126 => (allQ (okOA n) l_1126)) x_1124)) x_1122)) x_1118)) c) = _
  try simp only [iAddQ_eq, iMulQ_eq, iNegQ_eq, lenQ_eq, nthQ_eq, setQ_eq, appQ_eq, mapQ_eq, allQ_eq, anyQ_eq, dropQ_eq, takeQ_eq, revQ_eq, getDQ_eq, optLQ_eq, brecC]
  all_goals
    cases c with
    | inl y_1137 =>
      try dsimp only [cond_false, cond_true]
      all_goals
        cases y_1137 with
        | mk y_1138 y_1139 =>
          try dsimp only [cond_false, cond_true]
          all_goals rfl
    | inr y_1140 =>
      try dsimp only [cond_false, cond_true]
      all_goals
        cases y_1140 with
        | mk y_1141 y_1142 =>
          try dsimp only [cond_false, cond_true]
          all_goals
            cases y_1142 with
            | inl y_1143 =>
              try dsimp only [cond_false, cond_true]
              all_goals rfl
            | inr y_1144 =>
              try dsimp only [cond_false, cond_true]
              all_goals
                cases y_1144 with
                | inl y_1145 =>
                  try dsimp only [cond_false, cond_true]
                  all_goals rfl
                | inr y_1146 =>
                  try dsimp only [cond_false, cond_true]
                  all_goals rfl
section CUT
variable {ρ : Nat → Int}
theorem okVsA_ok {n : Nat} {v : Value} {a : AV} (h : vrel ρ v a) (ha : okVsA n a = true) : okVs n v = true := by
  match a, h with
  | .inl (false, e), ⟨x, e1, _⟩ => subst e1; rfl
  | .inl (true, e), ⟨x, e1, _⟩ => subst e1; rfl
  | .inr (.inl (some i)), e1 =>
    rw [show v = .ref i from e1]
    exact decide_eq_true (blt_iff.mp ha)
  | .inr (.inl none), e1 => rw [show v = .null from e1]; rfl
  | .inr (.inr (p, q)), e1 => rw [show v = .int _ from e1]; rfl
theorem okCA_ok {n : Nat} {c : SC} {a : AC} (h : crel ρ c a) (ha : okCA n a = true) : okC n c = true := by
  match a, h with
  | .inl (ci, as), ⟨fs, e, h'⟩ =>
    subst e
    refine List.all_eq_true.mpr fun v hv => ?_
    obtain ⟨i, hi, e⟩ := List.mem_iff_getElem.mp hv
    obtain ⟨b, hb1, hb2⟩ := rel2_get' h' (List.getElem?_eq_getElem hi)
    rw [e] at hb2
    rw [okCA_def] at ha
    exact okVsA_ok hb2 (List.all_eq_true.mp ha b (List.mem_of_getElem? hb1))
  | .inr (k, .inl s), h => obtain ⟨k', l, e⟩ := arel_any h; subst e; rfl
  | .inr (k, .inr (.inl m)), ⟨l, e, h'⟩ => subst e; rfl
  | .inr (k, .inr (.inr q)), e =>
    have e' : c = .inr (k, .inr (.inr q)) := e
    subst e'
    refine List.all_eq_true.mpr fun o ho => ?_
    rw [okCA_def] at ha
    have h1 := List.all_eq_true.mp ha o ho
    cases o with
    | none => rfl
    | some i => exact decide_eq_true (blt_iff.mp h1)
theorem okA_all {n : Nat} {σ : SH} {A : AH} (h : rel2 (crel ρ) σ A) (ha : A.all (okCA n) = true) : σ.all (okC n) = true := by
  refine List.all_eq_true.mpr fun c hc => ?_
  obtain ⟨i, hi, e⟩ := List.mem_iff_getElem.mp hc
  obtain ⟨b, hb1, hb2⟩ := rel2_get' h (List.getElem?_eq_getElem hi)
  rw [e] at hb2
  exact okCA_ok hb2 (List.all_eq_true.mp ha b (List.mem_of_getElem? hb1))
theorem okVA_all {n : Nat} {st : List Value} {as : List AV} (h : rel2 (vrel ρ) st as) (ha : as.all (okVA n) = true) : st.all (okV n) = true := by
  refine List.all_eq_true.mpr fun c hc => ?_
  obtain ⟨i, hi, e⟩ := List.mem_iff_getElem.mp hc
  obtain ⟨b, hb1, hb2⟩ := rel2_get' h (List.getElem?_eq_getElem hi)
  rw [e] at hb2
  exact okVA_ok hb2 (List.all_eq_true.mp ha b (List.mem_of_getElem? hb1))
-- new cells
noncomputable def newA (A : AH) (st : List AV) : Bool := Nat.blt A.length sIdx && (A.all (okCA A.length) && st.all (okVA A.length))
theorem newA_ok {σ : SH} {A : AH} {cst : List Value} {st : List AV} {clv : LV} (hA : rel2 (crel ρ) σ A) (hs : rel2 (vrel ρ) cst st) (hl : lvOk σ.length clv) (h : newA A st = true) : newOk σ cst clv = true := by
  unfold newA at h
  simp only [Bool.and_eq_true] at h
  have e := rel2_len hA
  unfold newOk okFr
  simp only [Bool.and_eq_true, decide_eq_true_eq]
  rw [e]
  refine ⟨blt_iff.mp h.1, okA_all hA h.2.1, okVA_all hs h.2.2, List.all_eq_true.mpr fun q hq => ?_⟩
  rw [← e]
  exact hl q hq
noncomputable def dflA (ty : FieldType) : AV := match ty with
  | .byte | .char | .short | .boolean | .int => avI (kL 0)
  | .long => avJ (kL 0)
  | .object _ | .array _ => .inr (.inl none)
  | _ => .inr (.inl none)
noncomputable def goodTy (ty : FieldType) : Bool := match ty with
  | .float => false
  | .double => false
  | _ => true
theorem dflA_ok {ty : FieldType} (h : goodTy ty = true) : vrel ρ (defaultValue ty) (dflA ty) := by
  cases ty with
  | float => cases h
  | double => cases h
  | byte => exact ⟨0, rfl, (ev_k ρ 0).symm⟩
  | char => exact ⟨0, rfl, (ev_k ρ 0).symm⟩
  | short => exact ⟨0, rfl, (ev_k ρ 0).symm⟩
  | boolean => exact ⟨0, rfl, (ev_k ρ 0).symm⟩
  | int => exact ⟨0, rfl, (ev_k ρ 0).symm⟩
  | long => exact ⟨0, rfl, (ev_k ρ 0).symm⟩
  | object c => rfl
  | array c => rfl
noncomputable def blankA (ci : Nat) : List AV := (List.range (clN ci)).map (fun k => dflA (clY ci k))
noncomputable def goodCl (ci : Nat) : Bool := (List.range (clN ci)).all (fun k => goodTy (clY ci k))
theorem blankA_ok {ci : Nat} (h : goodCl ci = true) : rel2 (vrel ρ) (blankF ci) (blankA ci) := by
  have key : ∀ l : List Nat, (∀ k ∈ l, goodTy (clY ci k) = true) → rel2 (vrel ρ) (l.map (fun k => defaultValue (clY ci k))) (l.map (fun k => dflA (clY ci k))) := by
    intro l
    induction l with
    | nil => intro _; exact trivial
    | cons k r ih => intro hk; exact ⟨dflA_ok (hk k List.mem_cons_self), ih fun j hj => hk j (List.mem_cons_of_mem _ hj)⟩
  exact key _ fun k hk => List.all_eq_true.mp h k hk
abbrev NR : Type := List AV × AH × Nat × Nat
noncomputable def g5 (i : Instr) (a : Nat) (tab : Tb) (fs : List Ln) (A : AH) (st : List AV) : Option NR := match i with
  | .new _ => bif newA A st then (bif Nat.blt a 13 then (bif goodCl a then some (.inr (.inl (some A.length)) :: st, A ++ [.inl (a, blankA a)], 1, clN a) else none) else none) else none
  | .newarray _ => match st with
    | .inl (false, e) :: r => bif newA A (.inl (false, e) :: r) then (match idxR tab fs e with
      | some (x, u) => bif Nat.beq x u then (bif Nat.ble x 10000 then (match a with
        | 1 => some (.inr (.inl (some A.length)) :: r, A ++ [.inr (1, .inr (.inl (Nat.add zB x)))], 1, x)
        | 0 => some (.inr (.inl (some A.length)) :: r, A ++ [.inr (0, .inl [.inr (x, 0, 0)])], 1, x)
        | 2 => some (.inr (.inl (some A.length)) :: r, A ++ [.inr (2, .inl [.inr (x, 0, 0)])], 1, x)
        | 3 => some (.inr (.inl (some A.length)) :: r, A ++ [.inr (3, .inl [.inr (x, 0, 0)])], 1, x)
        | _ => none) else none) else none
      | none => none) else none
    | _ => none
  | .anewarray _ => match st with
    | .inl (false, e) :: r => bif newA A (.inl (false, e) :: r) then (match idxR tab fs e with
      | some (x, u) => bif Nat.beq x u then (bif Nat.ble x 10000 then (bif Nat.ble 4 a then (bif Nat.blt a 8 then some (.inr (.inl (some A.length)) :: r, A ++ [.inr (a, .inr (.inr (List.replicate x none)))], 1, x) else none) else none) else none) else none
      | none => none) else none
    | _ => none
  | .invokespecial _ => match st with
    | .inr (.inl (some _)) :: r => bif Nat.ble ((r.map catA).sum) 8 then some (r, A, 0, 0) else none
    | _ => none
  | _ => none
theorem rep_ok {x : Nat} : srel ρ [.inr (x, 0, 0)] (List.replicate x 0) := srel_mk (by simp) (fun y hy => by
  have := List.eq_of_mem_replicate hy
  subst this
  exact ⟨Int.le_refl _, Int.le_refl _⟩)
theorem jOk_rep {x : Nat} (h : x ≤ 10000) : jOk (Nat.add zB x) (List.replicate x 0) := by
  have h1 : x < zB := Nat.lt_of_le_of_lt h (Nat.le_of_ble_eq_true rfl)
  exact ⟨by rw [List.length_replicate, jLen_add h1], fun _ y hy => List.eq_of_mem_replicate hy⟩
theorem okVs_int (n : Nat) (x : Int32) : okV n (.int x) = true := rfl
set_option maxHeartbeats 4000000 in
theorem g5_ok {i : Instr} {a dc ds : Nat} {tab : Tb} {fs : List Ln} {σ : SH} {A A' : AH} {cst : List Value} {st rest : List AV} {clv : LV} (ht : tOk ρ tab) (hf : fOk ρ fs) (hs : rel2 (vrel ρ) cst st) (hA : rel2 (crel ρ) σ A) (hl : lvOk σ.length clv) (h : g5 i a tab fs A st = some (rest, A', dc, ds)) : ∃ cr τ, stepF i a cst clv σ = some (cr, σ ++ τ, dc, ds) ∧ rel2 (vrel ρ) cr rest ∧ rel2 (crel ρ) (σ ++ τ) A' := by
  have no : ∀ {P : Prop}, (none : Option NR) = some (rest, A', dc, ds) → P := fun h => by cases h
  have len := rel2_len hA
  cases i with
  | new _ =>
    simp only [g5] at h
    cases h1 : newA A st with
    | false => rw [h1] at h; cases h
    | true =>
      rw [h1] at h
      cases h2 : Nat.blt a 13 with
      | false => rw [h2] at h; cases h
      | true =>
        rw [h2] at h
        cases h3 : goodCl a with
        | false => rw [h3] at h; cases h
        | true =>
          rw [h3] at h
          cases h
          refine ⟨.ref σ.length :: cst, [.inl (a, blankF a)], ?_, ⟨by rw [len]; rfl, hs⟩, rel2_app hA ⟨⟨_, rfl, blankA_ok h3⟩, trivial⟩⟩
          simp only [stepF]
          rw [if_pos ⟨newA_ok hA hs hl h1, blt_iff.mp h2⟩]
  | newarray _ =>
    simp only [g5] at h
    split at h
    · rename_i e r'
      cases h1 : newA A (.inl (false, e) :: r') with
      | false => rw [h1] at h; cases h
      | true =>
        rw [h1] at h
        simp only [cond_true] at h
        split at h
        · rename_i x u hi
          cases h2 : Nat.beq x u with
          | false => rw [h2] at h; cases h
          | true =>
            rw [h2] at h
            cases h3 : Nat.ble x 10000 with
            | false => rw [h3] at h; cases h
            | true =>
              rw [h3] at h
              simp only [cond_true] at h
              obtain ⟨v0, c0, e0, q0, hs0⟩ := rel2_cons hs
              obtain ⟨n, e1, q1⟩ := vI_inv q0
              subst e0; subst e1
              obtain ⟨p1, p2, p3⟩ := idxR_ok ht hf q1 hi
              have p4 := Nat.eq_of_beq_eq_true h2
              have p5 := Nat.le_of_ble_eq_true h3
              have p6 : n.toNatClampNeg = x := by omega
              have hnew := newA_ok hA hs hl h1
              have cnd' : newOk σ (.int n :: c0) clv = true ∧ 0 ≤ n ∧ n.toNatClampNeg ≤ 10000 := ⟨hnew, p1, by omega⟩
              have hr : vrel ρ (.ref σ.length) (.inr (.inl (some A.length))) := by rw [len]; rfl
              split at h
              · cases h
                refine ⟨.ref σ.length :: c0, [.inr (1, .inr (.inl (List.replicate ds 0)))], ?_, ⟨hr, hs0⟩, rel2_app hA ⟨⟨_, rfl, jOk_rep (by omega)⟩, trivial⟩⟩
                simp only [stepF]
                rw [if_pos cnd', p6]
              · cases h
                refine ⟨.ref σ.length :: c0, [.inr (0, .inl (List.replicate ds 0))], ?_, ⟨hr, hs0⟩, rel2_app hA ⟨arel_mk (by decide) rep_ok, trivial⟩⟩
                simp only [stepF]
                rw [if_pos cnd', p6]
              · cases h
                refine ⟨.ref σ.length :: c0, [.inr (2, .inl (List.replicate ds 0))], ?_, ⟨hr, hs0⟩, rel2_app hA ⟨arel_mk (by decide) rep_ok, trivial⟩⟩
                simp only [stepF]
                rw [if_pos cnd', p6]
              · cases h
                refine ⟨.ref σ.length :: c0, [.inr (3, .inl (List.replicate ds 0))], ?_, ⟨hr, hs0⟩, rel2_app hA ⟨arel_mk (by decide) rep_ok, trivial⟩⟩
                simp only [stepF]
                rw [if_pos cnd', p6]
              · cases h
        · cases h
    · cases h
  | anewarray _ =>
    simp only [g5] at h
    split at h
    · rename_i e r'
      cases h1 : newA A (.inl (false, e) :: r') with
      | false => rw [h1] at h; cases h
      | true =>
        rw [h1] at h
        simp only [cond_true] at h
        split at h
        · rename_i x u hi
          cases h2 : Nat.beq x u with
          | false => rw [h2] at h; cases h
          | true =>
            rw [h2] at h
            cases h3 : Nat.ble x 10000 with
            | false => rw [h3] at h; cases h
            | true =>
              rw [h3] at h
              cases h4 : Nat.ble 4 a with
              | false => rw [h4] at h; cases h
              | true =>
                rw [h4] at h
                cases h5 : Nat.blt a 8 with
                | false => rw [h5] at h; cases h
                | true =>
                  rw [h5] at h
                  cases h
                  obtain ⟨v0, c0, e0, q0, hs0⟩ := rel2_cons hs
                  obtain ⟨n, e1, q1⟩ := vI_inv q0
                  subst e0; subst e1
                  obtain ⟨p1, p2, p3⟩ := idxR_ok ht hf q1 hi
                  have p4 := Nat.eq_of_beq_eq_true h2
                  have p5 := Nat.le_of_ble_eq_true h3
                  have p6 : n.toNatClampNeg = ds := by omega
                  have hnew := newA_ok hA hs hl h1
                  have hr : vrel ρ (.ref σ.length) (.inr (.inl (some A.length))) := by rw [len]; rfl
                  refine ⟨.ref σ.length :: c0, [.inr (a, .inr (.inr (List.replicate ds none)))], ?_, ⟨hr, hs0⟩, rel2_app hA ⟨rfl, trivial⟩⟩
                  simp only [stepF]
                  rw [if_pos ⟨hnew, p1, by omega, Nat.le_of_ble_eq_true h4, blt_iff.mp h5⟩, p6]
        · cases h
    · cases h
  | invokespecial _ =>
    simp only [g5] at h
    split at h
    · rename_i q r'
      cases h1 : Nat.ble ((r'.map catA).sum) 8 with
      | false => rw [h1] at h; cases h
      | true =>
        rw [h1] at h
        cases h
        obtain ⟨v0, c0, e0, q0, hs0⟩ := rel2_cons hs
        have e4 := vR_inv q0
        subst e0; subst e4
        refine ⟨c0, [], ?_, hs0, by rw [List.append_nil]; exact hA⟩
        simp only [stepF]
        rw [if_pos (by rw [cat_sum hs0]; exact Nat.le_of_ble_eq_true h1), List.append_nil]
    · cases h
  | _ => exact no h
-- what a call sees
noncomputable def refsA (a : AV) : List Nat :=
  (Sum.rec (motive := fun _ => List Nat) (fun x_1152 => []) (fun x_1153 => (Sum.rec (motive := fun _ => List Nat) (fun x_1154 => (Option.rec (motive := fun _ => List Nat) [] (fun i_1156 => [i_1156]) x_1154)) (fun x_1155 => []) x_1153)) a)
theorem refsA_def (a : AV) : refsA a = (match a with
  | .inr (.inl (some i)) => [i]
  | _ => []) := by
  show (Sum.rec (motive := fun _ => List Nat) (fun x_1147 => []) (fun x_1148 => (Sum.rec (motive := fun _ => List Nat) (fun x_1149 => (Option.rec (motive := fun _ => List Nat) [] (fun i_1151 => [i_1151]) x_1149)) (fun x_1150 => []) x_1148)) a) = _
  all_goals
    cases a with
    | inl y_1157 =>
      try dsimp only [cond_false, cond_true]
      all_goals rfl
    | inr y_1158 =>
      try dsimp only [cond_false, cond_true]
      all_goals
        cases y_1158 with
        | inl y_1159 =>
          try dsimp only [cond_false, cond_true]
          all_goals
            cases y_1159 with
            | none =>
              try dsimp only [cond_false, cond_true]
              all_goals rfl
            | some y_1160 =>
              try dsimp only [cond_false, cond_true]
              all_goals rfl
        | inr y_1161 =>
          try dsimp only [cond_false, cond_true]
          all_goals rfl
noncomputable def refsL  : List AV → List Nat :=
  fun e_0 => List.rec (motive := fun _ => List Nat) [] (fun h_0 t_0 ih => (Sum.rec (motive := fun _ => List Nat) (fun x_1162 => (ih)) (fun x_1163 => (Sum.rec (motive := fun _ => List Nat) (fun x_1164 => (Option.rec (motive := fun _ => List Nat) (ih) (fun i_1166 => (i_1166 :: (ih))) x_1164)) (fun x_1165 => (ih)) x_1163)) h_0)) e_0 
theorem refsL_def  (e_0 : List AV) : refsL  e_0 = (match e_0 with
  | [] => []
  | a :: r => match a with
    | .inr (.inl (some i)) => i :: refsL r
    | _ => refsL r) := by
  cases e_0 with
  | nil =>
    show [] = _
    try simp only [iAddQ_eq, iMulQ_eq, iNegQ_eq, lenQ_eq, nthQ_eq, setQ_eq, appQ_eq, mapQ_eq, allQ_eq, anyQ_eq, dropQ_eq, takeQ_eq, revQ_eq, getDQ_eq, optLQ_eq, brecC]
    all_goals rfl
  | cons h_0 t_0 =>
    show (Sum.rec (motive := fun _ => List Nat) (fun x_1167 => (refsL t_0)) (fun x_1168 => (Sum.rec (motive := fun _ => List Nat) (fun x_1169 => (Option.rec (motive := fun _ => List Nat) (refsL t_0) (fun i_1171 => (i_1171 :: (refsL t_0))) x_1169)) (fun x_1170 => (refsL t_0)) x_1168)) h_0) = _
    try simp only [iAddQ_eq, iMulQ_eq, iNegQ_eq, lenQ_eq, nthQ_eq, setQ_eq, appQ_eq, mapQ_eq, allQ_eq, anyQ_eq, dropQ_eq, takeQ_eq, revQ_eq, getDQ_eq, optLQ_eq, brecC]
    all_goals
      cases h_0 with
      | inl y_1172 =>
        try dsimp only [cond_false, cond_true]
        all_goals rfl
      | inr y_1173 =>
        try dsimp only [cond_false, cond_true]
        all_goals
          cases y_1173 with
          | inl y_1174 =>
            try dsimp only [cond_false, cond_true]
            all_goals
              cases y_1174 with
              | none =>
                try dsimp only [cond_false, cond_true]
                all_goals rfl
              | some y_1175 =>
                try dsimp only [cond_false, cond_true]
                all_goals rfl
          | inr y_1176 =>
            try dsimp only [cond_false, cond_true]
            all_goals rfl
noncomputable def refsO  : List (Option Nat) → List Nat :=
  fun e_0 => List.rec (motive := fun _ => List Nat) [] (fun h_0 t_0 ih => (Option.rec (motive := fun _ => List Nat) (ih) (fun i_1177 => (i_1177 :: (ih))) h_0)) e_0 
theorem refsO_def  (e_0 : List (Option Nat)) : refsO  e_0 = (match e_0 with
  | [] => []
  | some i :: r => i :: refsO r
  | none :: r => refsO r) := by
  cases e_0 with
  | nil =>
    show [] = _
    try simp only [iAddQ_eq, iMulQ_eq, iNegQ_eq, lenQ_eq, nthQ_eq, setQ_eq, appQ_eq, mapQ_eq, allQ_eq, anyQ_eq, dropQ_eq, takeQ_eq, revQ_eq, getDQ_eq, optLQ_eq, brecC]
    all_goals rfl
  | cons h_0 t_0 =>
    show (Option.rec (motive := fun _ => List Nat) (refsO t_0) (fun i_1178 => (i_1178 :: (refsO t_0))) h_0) = _
    try simp only [iAddQ_eq, iMulQ_eq, iNegQ_eq, lenQ_eq, nthQ_eq, setQ_eq, appQ_eq, mapQ_eq, allQ_eq, anyQ_eq, dropQ_eq, takeQ_eq, revQ_eq, getDQ_eq, optLQ_eq, brecC]
    all_goals
      cases h_0 with
      | none =>
        try dsimp only [cond_false, cond_true]
        all_goals rfl
      | some y_1179 =>
        try dsimp only [cond_false, cond_true]
        all_goals rfl
noncomputable def refsAC (c : AC) : List Nat :=
  (Sum.rec (motive := fun _ => List Nat) (fun x_1190 => (Prod.rec (motive := fun _ => List Nat) (fun x_1192 as_1193 => (refsL as_1193)) x_1190)) (fun x_1191 => (Prod.rec (motive := fun _ => List Nat) (fun x_1194 x_1195 => (Sum.rec (motive := fun _ => List Nat) (fun x_1196 => []) (fun x_1197 => (Sum.rec (motive := fun _ => List Nat) (fun x_1198 => []) (fun l_1199 => (refsO l_1199)) x_1197)) x_1195)) x_1191)) c)
theorem refsAC_def (c : AC) : refsAC c = (match c with
  | .inl (_, as) => refsL as
  | .inr (_, .inr (.inr l)) => refsO l
  | _ => []) := by
  show (Sum.rec (motive := fun _ => List Nat) (fun x_1180 => (Prod.rec (motive := fun _ => List Nat) (fun x_1182 as_1183 => (refsL as_1183)) x_1180)) (fun x_1181 => (Prod.rec (motive := fun _ => List Nat) (fun x_1184 x_1185 => (Sum.rec (motive := fun _ => List Nat) (fun x_1186 => []) (fun x_1187 => (Sum.rec (motive := fun _ => List Nat) (fun x_1188 => []) (fun l_1189 => (refsO l_1189)) x_1187)) x_1185)) x_1181)) c) = _
  all_goals
    cases c with
    | inl y_1200 =>
      try dsimp only [cond_false, cond_true]
      all_goals
        cases y_1200 with
        | mk y_1201 y_1202 =>
          try dsimp only [cond_false, cond_true]
          all_goals rfl
    | inr y_1203 =>
      try dsimp only [cond_false, cond_true]
      all_goals
        cases y_1203 with
        | mk y_1204 y_1205 =>
          try dsimp only [cond_false, cond_true]
          all_goals
            cases y_1205 with
            | inl y_1206 =>
              try dsimp only [cond_false, cond_true]
              all_goals rfl
            | inr y_1207 =>
              try dsimp only [cond_false, cond_true]
              all_goals
                cases y_1207 with
                | inl y_1208 =>
                  try dsimp only [cond_false, cond_true]
                  all_goals rfl
                | inr y_1209 =>
                  try dsimp only [cond_false, cond_true]
                  all_goals rfl
theorem refsA_ok {v : Value} {a : AV} (h : vrel ρ v a) : refsV v = refsA a := by
  match a, h with
  | .inl (false, e), ⟨x, e1, _⟩ => subst e1; rfl
  | .inl (true, e), ⟨x, e1, _⟩ => subst e1; rfl
  | .inr (.inl (some i)), e1 => rw [show v = .ref i from e1]; rfl
  | .inr (.inl none), e1 => rw [show v = .null from e1]; rfl
  | .inr (.inr (p, q)), e1 => rw [show v = .int _ from e1]; rfl
theorem refsL_cons (a : AV) (r : List AV) : refsL (a :: r) = refsA a ++ refsL r := by
  match a with
  | .inl (false, e) => rfl
  | .inl (true, e) => rfl
  | .inr (.inl (some i)) => rfl
  | .inr (.inl none) => rfl
  | .inr (.inr (p, q)) => rfl
theorem refsL_ok {l : List Value} {as : List AV} (h : rel2 (vrel ρ) l as) : l.flatMap refsV = refsL as := by
  induction as generalizing l with
  | nil => rw [rel2_nil h]; rfl
  | cons a r ih =>
    obtain ⟨v, l', e, h1, h2⟩ := rel2_cons h
    subst e
    rw [refsL_cons, List.flatMap_cons, ih h2, refsA_ok h1]
theorem refsO_ok (l : List (Option Nat)) : l.filterMap id = refsO l := by
  induction l with
  | nil => rfl
  | cons o r ih =>
    cases o with
    | none =>
      have e : refsO (none :: r) = refsO r := rfl
      rw [e]
      simpa using ih
    | some i => simp [refsO, ih]
theorem refsAC_ok {c : SC} {a : AC} (h : crel ρ c a) : refsC c = refsAC a := by
  match a, h with
  | .inl (ci, as), ⟨fs, e, h'⟩ => subst e; exact refsL_ok h'
  | .inr (k, .inl s), h => obtain ⟨k', l, e⟩ := arel_any h; subst e; rfl
  | .inr (k, .inr (.inl m)), ⟨l, e, h'⟩ => subst e; rfl
  | .inr (k, .inr (.inr q)), e => rw [show c = .inr (k, .inr (.inr q)) from e]; exact refsO_ok q
noncomputable def aRe_a0 :=
  fun (ih : List Nat → List Nat → Option (List Nat)) c_1212 (td_1211 : List Nat) (i_1210 : Nat) (e_2 : List Nat) => ((ih (appQ (refsAC c_1212) td_1211) (i_1210 :: e_2)) : Option (List Nat))
noncomputable def aRe (A : AH) : Nat → List Nat → List Nat → Option (List Nat) :=
  fun e_0 e_1 e_2 => Nat.rec (motive := fun _ => List Nat → List Nat → Option (List Nat)) (fun e_1 e_2 => none) (fun t_0 ih e_1 e_2 => (List.rec (motive := fun _ => Option (List Nat)) (some e_2) (fun i_1210 td_1211 _ => (Bool.rec (motive := fun _ => Option (List Nat)) (Option.rec (motive := fun _ => Option (List Nat)) none (fun c_1212 => (aRe_a0 ih c_1212 td_1211 i_1210 e_2)) (nthQ A i_1210)) (ih td_1211 e_2) (memN i_1210 e_2))) e_1)) e_0 e_1 e_2
theorem aRe_def (A : AH) (e_0 : Nat) (e_1 : List Nat) (e_2 : List Nat) : aRe A e_0 e_1 e_2 = (match e_0, e_1, e_2 with
  | 0, _, _ => none
  | _ + 1, [], seen => some seen
  | n + 1, i :: td, seen => bif memN i seen then aRe A n td seen else match A[i]? with
    | some c => aRe A n (refsAC c ++ td) (i :: seen)
    | none => none) := by
  cases e_0 with
  | zero =>
    show none = _
    try simp only [iAddQ_eq, iMulQ_eq, iNegQ_eq, lenQ_eq, nthQ_eq, setQ_eq, appQ_eq, mapQ_eq, allQ_eq, anyQ_eq, dropQ_eq, takeQ_eq, revQ_eq, getDQ_eq, optLQ_eq, brecC]
    all_goals rfl
  | succ t_0 =>
    show (List.rec (motive := fun _ => Option (List Nat)) (some e_2) (fun i_1213 td_1214 _ => (Bool.rec (motive := fun _ => Option (List Nat)) (Option.rec (motive := fun _ => Option (List Nat)) none (fun c_1215 => (aRe A t_0 (appQ (refsAC c_1215) td_1214) (i_1213 :: e_2))) (nthQ A i_1213)) (aRe A t_0 td_1214 e_2) (memN i_1213 e_2))) e_1) = _
    try simp only [iAddQ_eq, iMulQ_eq, iNegQ_eq, lenQ_eq, nthQ_eq, setQ_eq, appQ_eq, mapQ_eq, allQ_eq, anyQ_eq, dropQ_eq, takeQ_eq, revQ_eq, getDQ_eq, optLQ_eq, brecC]
    all_goals
      cases e_1 with
      | nil =>
        try dsimp only [cond_false, cond_true]
        all_goals rfl
      | cons y_1216 y_1217 =>
        try dsimp only [cond_false, cond_true]
        all_goals
          cases hq_2 : (memN y_1216 e_2) with
          | false =>
            try dsimp only [cond_false, cond_true]
            all_goals
              cases hq_3 : A[y_1216]? with
              | none =>
                try dsimp only [cond_false, cond_true]
                all_goals rfl
              | some y_1218 =>
                try dsimp only [cond_false, cond_true]
                all_goals rfl
          | true =>
            try dsimp only [cond_false, cond_true]
            all_goals rfl
theorem aRe_ok {σ : SH} {A : AH} (hA : rel2 (crel ρ) σ A) : ∀ (n : Nat) (td seen I : List Nat), aRe A n td seen = some I → reach σ n td seen = I ∧ (seen.Nodup → I.Nodup) ∧ (∀ x ∈ td, x ∈ I) ∧ (∀ x ∈ seen, x ∈ I) ∧ ((∀ x ∈ seen, ∃ c, σ[x]? = some c ∧ ∀ j ∈ refsC c, j ∈ seen ∨ j ∈ td) → ∀ x ∈ I, ∃ c, σ[x]? = some c ∧ ∀ j ∈ refsC c, j ∈ I) := by
  intro n
  induction n with
  | zero => intro td seen I h; cases h
  | succ n ih =>
    intro td seen I h
    cases td with
    | nil =>
      cases h
      refine ⟨rfl, id, fun x hx => (by cases hx), fun x hx => hx, fun hc x hx => ?_⟩
      obtain ⟨c, c1, c2⟩ := hc x hx
      exact ⟨c, c1, fun j hj => (c2 j hj).elim id (fun q => (by cases q))⟩
    | cons i td =>
      rw [aRe_def] at h
      try dsimp only at h
      cases hm : memN i seen with
      | true =>
        rw [hm] at h
        have hi := memN_iff.mp hm
        obtain ⟨h1, h2, h3, h4, h5⟩ := ih td seen I h
        refine ⟨?_, h2, fun x hx => ?_, h4, fun hc => h5 fun x hx => ?_⟩
        · show (if i ∈ seen then reach σ n td seen else _) = I
          rw [if_pos hi, h1]
        · rcases List.mem_cons.mp hx with rfl | hx
          · exact h4 _ hi
          · exact h3 x hx
        · obtain ⟨c, c1, c2⟩ := hc x hx
          refine ⟨c, c1, fun j hj => ?_⟩
          rcases c2 j hj with q | q
          · exact Or.inl q
          · rcases List.mem_cons.mp q with rfl | q
            · exact Or.inl hi
            · exact Or.inr q
      | false =>
        rw [hm] at h
        have hi : ¬ i ∈ seen := fun q => by rw [memN_iff.mpr q] at hm; cases hm
        cases ha : A[i]? with
        | none => simp only [ha, cond_false] at h; cases h
        | some a =>
          simp only [ha, cond_false] at h
          obtain ⟨c, hc1, hc2⟩ := rel2_get hA ha
          have hr := refsAC_ok hc2
          rw [← hr] at h
          obtain ⟨h1, h2, h3, h4, h5⟩ := ih (refsC c ++ td) (i :: seen) I h
          refine ⟨?_, fun hn => h2 (List.nodup_cons.mpr ⟨hi, hn⟩), fun x hx => ?_, fun x hx => h4 x (List.mem_cons_of_mem _ hx), fun hc => h5 fun x hx => ?_⟩
          · show (if i ∈ seen then reach σ n td seen else match σ[i]? with
              | some c => reach σ n (refsC c ++ td) (i :: seen)
              | none => reach σ n td seen) = I
            rw [if_neg hi, hc1]
            exact h1
          · rcases List.mem_cons.mp hx with rfl | hx
            · exact h4 _ List.mem_cons_self
            · exact h3 x (List.mem_append.mpr (Or.inr hx))
          · rcases List.mem_cons.mp hx with rfl | hx
            · exact ⟨c, hc1, fun j hj => Or.inr (List.mem_append.mpr (Or.inl hj))⟩
            · obtain ⟨d, d1, d2⟩ := hc x hx
              refine ⟨d, d1, fun j hj => ?_⟩
              rcases d2 j hj with q | q
              · exact Or.inl (List.mem_cons_of_mem _ q)
              · rcases List.mem_cons.mp q with rfl | q
                · exact Or.inl List.mem_cons_self
                · exact Or.inr (List.mem_append.mpr (Or.inr q))
theorem nd_of {l : List Nat} (h : l.Nodup) : va_nd l = true := by
  induction l with
  | nil => rfl
  | cons a r ih =>
    obtain ⟨h1, h2⟩ := List.nodup_cons.mp h
    simp only [va_nd, Bool.and_eq_true, decide_eq_true_eq]
    exact ⟨h1, ih h2⟩
noncomputable def aCut (A : AH) (as : List AV) : Option (List Nat) :=
  (Option.rec (motive := fun _ => Option (List Nat)) none (fun I_1220 => (some (revQ I_1220))) (aRe A (nat_lit 100000) (refsL as) []))
theorem aCut_def (A : AH) (as : List AV) : aCut A as = (match aRe A 100000 (refsL as) [] with
  | some I => some I.reverse
  | none => none) := by
  show (Option.rec (motive := fun _ => Option (List Nat)) none (fun I_1219 => (some (revQ I_1219))) (aRe A (nat_lit 100000) (refsL as) [])) = _
  try simp only [iAddQ_eq, iMulQ_eq, iNegQ_eq, lenQ_eq, nthQ_eq, setQ_eq, appQ_eq, mapQ_eq, allQ_eq, anyQ_eq, dropQ_eq, takeQ_eq, revQ_eq, getDQ_eq, optLQ_eq, brecC]
  all_goals
    cases hq_1 : (aRe A 100000 ((refsL as)) []) with
    | none =>
      try dsimp only [cond_false, cond_true]
      all_goals rfl
    | some y_1221 =>
      try dsimp only [cond_false, cond_true]
      all_goals rfl
theorem aCut_ok {σ : SH} {A : AH} (hA : rel2 (crel ρ) σ A) {as : List Value} {aa : List AV} (ha : rel2 (vrel ρ) as aa) {I : List Nat} (h : aCut A aa = some I) : cutI σ as = I ∧ cutOk σ as I = true ∧ ∀ i ∈ I, i < σ.length := by
  rw [aCut_def] at h
  cases hr : aRe A 100000 (refsL aa) [] with
  | none => rw [hr] at h; cases h
  | some J =>
    rw [hr] at h
    cases h
    rw [← refsL_ok ha] at hr
    obtain ⟨h1, h2, h3, -, h5⟩ := aRe_ok hA _ _ _ _ hr
    have h6 := h5 (fun x hx => (by cases hx))
    refine ⟨?_, ?_, fun i hi => ?_⟩
    · unfold cutI
      rw [h1]
    · unfold cutOk
      simp only [Bool.and_eq_true, List.all_eq_true, decide_eq_true_eq]
      refine ⟨nd_of ?_, fun v hv i hi => List.mem_reverse.mpr (h3 i (List.mem_flatMap.mpr ⟨v, hv, hi⟩)), fun i hi => ?_⟩
      · unfold List.Nodup
        exact List.pairwise_reverse.mpr ((h2 List.nodup_nil).imp fun q => Ne.symm q)
      · obtain ⟨c, c1, c2⟩ := h6 i (List.mem_reverse.mp hi)
        rw [c1]
        simp only [List.all_eq_true, decide_eq_true_eq]
        exact fun j hj => List.mem_reverse.mpr (c2 j hj)
    · obtain ⟨c, c1, c2⟩ := h6 i (List.mem_reverse.mp hi)
      exact (List.getElem?_eq_some_iff.mp c1).1
noncomputable def ixA_a0 :=
  fun (ih : Nat) (h_0 : Nat) (j : Nat) => ((Bool.rec (motive := fun _ => Nat) (Nat.succ (ih)) (nat_lit 0) (Nat.beq h_0 j)) : Nat)
noncomputable def ixA (j : Nat) : List Nat → Nat :=
  fun e_0 => List.rec (motive := fun _ => Nat) (nat_lit 0) (fun h_0 t_0 ih => (ixA_a0 ih h_0 j)) e_0 
theorem ixA_def (j : Nat) (e_0 : List Nat) : ixA j e_0 = (match e_0 with
  | [] => 0
  | a :: l => bif Nat.beq a j then 0 else Nat.succ (ixA j l)) := by
  cases e_0 with
  | nil =>
    show (nat_lit 0) = _
    try simp only [iAddQ_eq, iMulQ_eq, iNegQ_eq, lenQ_eq, nthQ_eq, setQ_eq, appQ_eq, mapQ_eq, allQ_eq, anyQ_eq, dropQ_eq, takeQ_eq, revQ_eq, getDQ_eq, optLQ_eq, brecC]
    all_goals rfl
  | cons h_0 t_0 =>
    show (Bool.rec (motive := fun _ => Nat) (Nat.succ (ixA j t_0)) (nat_lit 0) (Nat.beq h_0 j)) = _
    try simp only [iAddQ_eq, iMulQ_eq, iNegQ_eq, lenQ_eq, nthQ_eq, setQ_eq, appQ_eq, mapQ_eq, allQ_eq, anyQ_eq, dropQ_eq, takeQ_eq, revQ_eq, getDQ_eq, optLQ_eq, brecC]
    all_goals
      cases hq_1 : (Nat.beq h_0 j) with
      | false =>
        try dsimp only [cond_false, cond_true]
        all_goals rfl
      | true =>
        try dsimp only [cond_false, cond_true]
        all_goals rfl
theorem ixA_eq (j : Nat) (l : List Nat) : ixOf j l = ixA j l := by
  induction l with
  | nil => rfl
  | cons a l ih =>
    rw [ixA_def]
    show (if a = j then 0 else ixOf j l + 1) = bif Nat.beq a j then 0 else Nat.succ (ixA j l)
    cases h : Nat.beq a j with
    | true => rw [if_pos (Nat.eq_of_beq_eq_true h)]; rfl
    | false => rw [if_neg (fun e => by rw [e, Nat.beq_refl] at h; cases h), ih]; rfl
noncomputable def mpV (f : Nat → Nat) (a : AV) : AV :=
  (Sum.rec (motive := fun _ => AV) (fun x_1227 => a) (fun x_1228 => (Sum.rec (motive := fun _ => AV) (fun x_1229 => (Option.rec (motive := fun _ => AV) a (fun i_1231 => (.inr (.inl (some (f i_1231))))) x_1229)) (fun x_1230 => a) x_1228)) a)
theorem mpV_def (f : Nat → Nat) (a : AV) : mpV f a = (match a with
  | .inr (.inl (some i)) => .inr (.inl (some (f i)))
  | a => a) := by
  show (Sum.rec (motive := fun _ => AV) (fun x_1222 => a) (fun x_1223 => (Sum.rec (motive := fun _ => AV) (fun x_1224 => (Option.rec (motive := fun _ => AV) a (fun i_1226 => (.inr (.inl (some (f i_1226))))) x_1224)) (fun x_1225 => a) x_1223)) a) = _
  all_goals
    cases a with
    | inl y_1232 =>
      try dsimp only [cond_false, cond_true]
      all_goals rfl
    | inr y_1233 =>
      try dsimp only [cond_false, cond_true]
      all_goals
        cases y_1233 with
        | inl y_1234 =>
          try dsimp only [cond_false, cond_true]
          all_goals
            cases y_1234 with
            | none =>
              try dsimp only [cond_false, cond_true]
              all_goals rfl
            | some y_1235 =>
              try dsimp only [cond_false, cond_true]
              all_goals rfl
        | inr y_1236 =>
          try dsimp only [cond_false, cond_true]
          all_goals rfl
noncomputable def mpC_a0 :=
  fun (ci_1249 : Nat) (f : Nat → Nat) (as_1250 : List AV) => ((.inl (ci_1249, (mapQ (mpV f) as_1250))) : AC)
noncomputable def mpC_a1 :=
  fun (k_1251 : Nat) (f : Nat → Nat) (l_1256 : List (Option Nat)) => ((.inr (k_1251, (.inr (.inr (mapQ (Option.map f) l_1256))))) : AC)
noncomputable def mpC (f : Nat → Nat) (c : AC) : AC :=
  (Sum.rec (motive := fun _ => AC) (fun x_1247 => (Prod.rec (motive := fun _ => AC) (fun ci_1249 as_1250 => (mpC_a0 ci_1249 f as_1250)) x_1247)) (fun x_1248 => (Prod.rec (motive := fun _ => AC) (fun k_1251 x_1252 => (Sum.rec (motive := fun _ => AC) (fun x_1253 => c) (fun x_1254 => (Sum.rec (motive := fun _ => AC) (fun x_1255 => c) (fun l_1256 => (mpC_a1 k_1251 f l_1256)) x_1254)) x_1252)) x_1248)) c)
theorem mpC_def (f : Nat → Nat) (c : AC) : mpC f c = (match c with
  | .inl (ci, as) => .inl (ci, as.map (mpV f))
  | .inr (k, .inr (.inr l)) => .inr (k, .inr (.inr (l.map (Option.map f))))
  | c => c) := by
  show (Sum.rec (motive := fun _ => AC) (fun x_1237 => (Prod.rec (motive := fun _ => AC) (fun ci_1239 as_1240 => (.inl (ci_1239, (mapQ (mpV f) as_1240)))) x_1237)) (fun x_1238 => (Prod.rec (motive := fun _ => AC) (fun k_1241 x_1242 => (Sum.rec (motive := fun _ => AC) (fun x_1243 => c) (fun x_1244 => (Sum.rec (motive := fun _ => AC) (fun x_1245 => c) (fun l_1246 => (.inr (k_1241, (.inr (.inr (mapQ (Option.map f) l_1246)))))) x_1244)) x_1242)) x_1238)) c) = _
  try simp only [iAddQ_eq, iMulQ_eq, iNegQ_eq, lenQ_eq, nthQ_eq, setQ_eq, appQ_eq, mapQ_eq, allQ_eq, anyQ_eq, dropQ_eq, takeQ_eq, revQ_eq, getDQ_eq, optLQ_eq, brecC]
  all_goals
    cases c with
    | inl y_1257 =>
      try dsimp only [cond_false, cond_true]
      all_goals
        cases y_1257 with
        | mk y_1258 y_1259 =>
          try dsimp only [cond_false, cond_true]
          all_goals rfl
    | inr y_1260 =>
      try dsimp only [cond_false, cond_true]
      all_goals
        cases y_1260 with
        | mk y_1261 y_1262 =>
          try dsimp only [cond_false, cond_true]
          all_goals
            cases y_1262 with
            | inl y_1263 =>
              try dsimp only [cond_false, cond_true]
              all_goals rfl
            | inr y_1264 =>
              try dsimp only [cond_false, cond_true]
              all_goals
                cases y_1264 with
                | inl y_1265 =>
                  try dsimp only [cond_false, cond_true]
                  all_goals rfl
                | inr y_1266 =>
                  try dsimp only [cond_false, cond_true]
                  all_goals rfl
theorem rnV_ok {I : List Nat} {v : Value} {a : AV} (h : vrel ρ v a) : vrel ρ (rnV I v) (mpV (fun j => ixA j I) a) := by
  match a, h with
  | .inl (false, e), ⟨x, e1, h'⟩ => subst e1; exact ⟨x, rfl, h'⟩
  | .inl (true, e), ⟨x, e1, h'⟩ => subst e1; exact ⟨x, rfl, h'⟩
  | .inr (.inl (some i)), e1 =>
    rw [show v = .ref i from e1]
    show Value.ref (ixOf i I) = .ref (ixA i I)
    rw [ixA_eq]
  | .inr (.inl none), e1 => rw [show v = .null from e1]; rfl
  | .inr (.inr (p, q)), e1 => rw [show v = .int _ from e1]; rfl
theorem rnC_ok {I : List Nat} {c : SC} {a : AC} (h : crel ρ c a) : crel ρ (rnC I c) (mpC (fun j => ixA j I) a) := by
  match a, h with
  | .inl (ci, as), ⟨fs, e, h'⟩ => rw [mpC_def]; subst e; exact ⟨_, rfl, rel2_map (fun _ _ q => rnV_ok q) h'⟩
  | .inr (k, .inl s), h => obtain ⟨k', l, e⟩ := arel_any h; subst e; exact h
  | .inr (k, .inr (.inl m)), ⟨l, e, h'⟩ => subst e; exact ⟨_, rfl, h'⟩
  | .inr (k, .inr (.inr q)), e =>
    rw [show c = .inr (k, .inr (.inr q)) from e]
    rw [mpC_def]
    show (Sum.inr (k, .inr (.inr (q.map (Option.map (fun j => ixOf j I))))) : SC) = .inr (k, .inr (.inr (q.map (Option.map (fun j => ixA j I)))))
    rw [show (fun j => ixOf j I) = (fun j => ixA j I) from funext fun j => ixA_eq j I]
noncomputable def urA (I : List Nat) (n k : Nat) : Nat :=
  (Bool.rec (motive := fun _ => Nat) (Nat.add n (Nat.sub k (lenQ I))) (getDQ I k (nat_lit 0)) (Nat.blt k (lenQ I)))
theorem urA_def (I : List Nat) (n k : Nat) : urA I n k = bif Nat.blt k I.length then I.getD k 0 else Nat.add n (Nat.sub k I.length) := by
  show (Bool.rec (motive := fun _ => Nat) (Nat.add n (Nat.sub k (lenQ I))) (getDQ I k (nat_lit 0)) (Nat.blt k (lenQ I))) = _
  try simp only [iAddQ_eq, iMulQ_eq, iNegQ_eq, lenQ_eq, nthQ_eq, setQ_eq, appQ_eq, mapQ_eq, allQ_eq, anyQ_eq, dropQ_eq, takeQ_eq, revQ_eq, getDQ_eq, optLQ_eq, brecC]
  all_goals
    cases hq_1 : (Nat.blt k I.length) with
    | false =>
      try dsimp only [cond_false, cond_true]
      all_goals rfl
    | true =>
      try dsimp only [cond_false, cond_true]
      all_goals rfl
theorem urA_eq (I : List Nat) (n k : Nat) : urN I n k = urA I n k := by
  rw [urA_def]
  unfold urN
  cases h : Nat.blt k I.length with
  | true => rw [if_pos (blt_iff.mp h)]; rfl
  | false => rw [if_neg (Nat.not_lt.mpr (blt_f h))]; rfl
theorem urV_ok {I : List Nat} {n : Nat} {v : Value} {a : AV} (h : vrel ρ v a) : vrel ρ (urV I n v) (mpV (urA I n) a) := by
  match a, h with
  | .inl (false, e), ⟨x, e1, h'⟩ => subst e1; exact ⟨x, rfl, h'⟩
  | .inl (true, e), ⟨x, e1, h'⟩ => subst e1; exact ⟨x, rfl, h'⟩
  | .inr (.inl (some i)), e1 =>
    rw [show v = .ref i from e1]
    show Value.ref (urN I n i) = .ref (urA I n i)
    rw [urA_eq]
  | .inr (.inl none), e1 => rw [show v = .null from e1]; rfl
  | .inr (.inr (p, q)), e1 => rw [show v = .int _ from e1]; rfl
end CUT
