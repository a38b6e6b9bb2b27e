/-! ===== hints: one record opened, closed again; hints beside each other ===== -/
noncomputable def cellB_a0 :=
  fun (tab : Tb) s_3295 (i : Nat) k_3293 => ((Bool.rec (motive := fun _ => Option (Int × Int)) none (sgHull tab s_3295 i i) (Nat.blt k_3293 (nat_lit 100))) : Option (Int × Int))
noncomputable def cellB (tab : Tb) (A : AH) (c i : Nat) : Option (Int × Int) :=
  (Option.rec (motive := fun _ => Option (Int × Int)) none (fun x_3290 => (Sum.rec (motive := fun _ => Option (Int × Int)) (fun x_3291 => none) (fun x_3292 => (Prod.rec (motive := fun _ => Option (Int × Int)) (fun k_3293 x_3294 => (Sum.rec (motive := fun _ => Option (Int × Int)) (fun s_3295 => (cellB_a0 tab s_3295 i k_3293)) (fun x_3296 => none) x_3294)) x_3292)) x_3290)) (nthQ A c))
theorem cellB_def (tab : Tb) (A : AH) (c i : Nat) : cellB tab A c i = (match A[c]? with
  | some (.inr (k, .inl s)) => bif Nat.blt k 100 then sgHull tab s i i else none
  | _ => none) := by
  show (Option.rec (motive := fun _ => Option (Int × Int)) none (fun x_3283 => (Sum.rec (motive := fun _ => Option (Int × Int)) (fun x_3284 => none) (fun x_3285 => (Prod.rec (motive := fun _ => Option (Int × Int)) (fun k_3286 x_3287 => (Sum.rec (motive := fun _ => Option (Int × Int)) (fun s_3288 => (Bool.rec (motive := fun _ => Option (Int × Int)) none (sgHull tab s_3288 i i) (Nat.blt k_3286 (nat_lit 100)))) (fun x_3289 => none) x_3287)) x_3285)) x_3283)) (nthQ A c)) = _
  try simp only [iAddQ_eq, iMulQ_eq, iNegQ_eq, lenQ_eq, nthQ_eq, setQ_eq, appQ_eq, mapQ_eq, allQ_eq, anyQ_eq, dropQ_eq, takeQ_eq, revQ_eq, getDQ_eq, optLQ_eq, brecC]
  all_goals
    cases hq_1 : A[c]? with
    | none =>
      try dsimp only [cond_false, cond_true]
      all_goals rfl
    | some y_3297 =>
      try dsimp only [cond_false, cond_true]
      all_goals
        cases y_3297 with
        | inl y_3298 =>
          try dsimp only [cond_false, cond_true]
          all_goals rfl
        | inr y_3299 =>
          try dsimp only [cond_false, cond_true]
          all_goals
            cases y_3299 with
            | mk y_3300 y_3301 =>
              try dsimp only [cond_false, cond_true]
              all_goals
                cases y_3301 with
                | inl y_3302 =>
                  try dsimp only [cond_false, cond_true]
                  all_goals
                    cases hq_5 : (Nat.blt y_3300 100) with
                    | false =>
                      try dsimp only [cond_false, cond_true]
                      all_goals rfl
                    | true =>
                      try dsimp only [cond_false, cond_true]
                      all_goals rfl
                | inr y_3303 =>
                  try dsimp only [cond_false, cond_true]
                  all_goals rfl
theorem cellB_ok {σ : SH} {A : AH} {ρ : Nat → Int} {tab : Tb} (ht : tOk ρ tab) (hr : rel2 (crel ρ) σ A) {c i : Nat} {lo hi : Int} (h : cellB tab A c i = some (lo, hi)) : i < (arrI (σ.getD c (.inl (0, [])))).length ∧ lo ≤ gI (arrI (σ.getD c (.inl (0, [])))) i ∧ gI (arrI (σ.getD c (.inl (0, [])))) i ≤ hi := by
  rw [cellB_def] at h
  split at h
  · rename_i k s hc
    cases hk : Nat.blt k 100 with
    | false => rw [hk] at h; cases h
    | true =>
      rw [hk] at h
      simp only [cond_true] at h
      obtain ⟨cc, c1, c2⟩ := rel2_get hr hc
      obtain ⟨l, e1, e2⟩ := crI_inv (blt_iff.mp hk) c2
      subst e1
      obtain ⟨x, x1, x2, x3⟩ := sgHull_ok ht e2 h i (Nat.le_refl _) (Nat.le_refl _)
      have e3 : arrI (σ.getD c (.inl (0, []))) = l := by rw [List.getD_eq_getElem?_getD, c1]; rfl
      rw [e3]
      have e4 : gI l i = x.toInt := by
        unfold gI
        rw [List.getD_eq_getElem?_getD, x1]
        rfl
      rw [e4]
      exact ⟨(List.getElem?_eq_some_iff.mp x1).1, x2, x3⟩
  · cases h
noncomputable def inQ (q : Int × Int) (lo hi : Int) : Bool := bif leI lo q.1 then leI q.2 hi else false
/-- bounds that make a record right -/
noncomputable def recB (t a b c : Int × Int) : Bool := match t with
  | (.ofNat n, .ofNat m) => bif Nat.beq n m then (bif Nat.ble n 10 then (bif inQ a 0 11 then (bif (bif Nat.ble 1 n then Nat.ble n 6 else false) then (bif inQ b 0 11 then inQ c 0 11 else false) else bif Nat.beq n 8 then inQ b 0 1 else bif Nat.beq n 9 then inQ b 0 7 else true) else false) else false) else false
  | _ => false
theorem inQ_ok {q : Int × Int} {lo hi x : Int} (h : inQ q lo hi = true) (h1 : q.1 ≤ x) (h2 : x ≤ q.2) : lo ≤ x ∧ x ≤ hi := by
  obtain ⟨a, b⟩ := cand h
  exact ⟨Int.le_trans (leI_iff.mp a) h1, Int.le_trans h2 (leI_iff.mp b)⟩
theorem recB_ok {t a b c : Int × Int} {xt xa xb xc : Int} (h : recB t a b c = true) (ht : t.1 ≤ xt ∧ xt ≤ t.2) (ha : a.1 ≤ xa ∧ xa ≤ a.2) (hb : b.1 ≤ xb ∧ xb ≤ b.2) (hc : c.1 ≤ xc ∧ xc ≤ c.2) : okRec xt xa xb xc := by
  unfold recB at h
  split at h
  · rename_i n m
    cases z1 : Nat.beq n m with
    | false => rw [z1] at h; cases h
    | true =>
      rw [z1] at h
      have e1 := Nat.eq_of_beq_eq_true z1
      subst e1
      have hx : xt = (n : Int) := Int.le_antisymm ht.2 ht.1
      obtain ⟨_, h⟩ := cand h
      obtain ⟨g1, h⟩ := cand h
      obtain ⟨g2, h⟩ := cand h
      have g1' := Nat.le_of_ble_eq_true g1
      refine ⟨by omega, inQ_ok g2 ha.1 ha.2, fun q1 q2 => ?_, fun q => ?_, fun q => ?_⟩
      · have w1 : Nat.ble 1 n = true := Nat.ble_eq_true_of_le (by omega)
        have w2 : Nat.ble n 6 = true := Nat.ble_eq_true_of_le (by omega)
        rw [w1, w2] at h
        obtain ⟨g3, g4⟩ := cand h
        exact ⟨inQ_ok g3 hb.1 hb.2, inQ_ok g4 hc.1 hc.2⟩
      · have : n = 8 := by omega
        subst this
        exact inQ_ok h hb.1 hb.2
      · have : n = 9 := by omega
        subst this
        exact inQ_ok h hb.1 hb.2
  · cases h
/-- a place at which a record is opened -/
noncomputable def hOpen (at_ loc kd : Nat) : HF := fun pc lv A pr nx tab fs => bif Nat.beq pc at_ then (match srcV loc lv A with
  | some (.inl (false, e)) => (match cst tab e with
    | some (.ofNat v) => (match pr.find? (fun p => Nat.beq p.1 kd), kd with
      | some (_, [t, a, b, c], []), 0 => bif Nat.blt v 60 then allCases A ((Nat.add v 1000, [t, a, b, c], []) :: pr) nx tab fs [[(t, v, lo32, hi32), (a, v, lo32, hi32), (b, v, lo32, hi32), (c, v, lo32, hi32)]] else none
      | some (_, [q], []), 1 => bif Nat.blt v 120 then allCases A ((Nat.add (Nat.add v 1000) 1000, [q], []) :: pr) nx tab fs [[(q, 200 + 4 * v, lo32, hi32), (q, 201 + 4 * v, lo32, hi32), (q, 202 + 4 * v, lo32, hi32), (q, 203 + 4 * v, lo32, hi32)]] else none
      | _, _ => none)
    | _ => none)
  | _ => none) else none
theorem hOne {A : AH} {pr : List PD} {p : PD} {nx : Nat} {tab : Tb} {fs : List Ln} {ρ : Nat → Int} {clv : LV} {lv : AL} {cσ : SH} (hr : ∀ ρ', agr2 nx ρ ρ' → tOk ρ' tab ∧ fOk ρ' fs ∧ lvR ρ' clv lv ∧ rel2 (crel ρ') cσ A) (hp : ∀ ρ', agr2 nx ρ ρ' → prOk PPk ρ' cσ pr) (h : ∀ ρ', agr2 nx ρ ρ' → PPk p.1 (p.2.1.map (fun i => arrI (cσ.getD i (.inl (0, []))))) (p.2.2.map (ev ρ'))) : ∃ q ∈ [((A, p :: pr, nx, tab, fs) : HR)], ∃ ρ1, nx ≤ q.2.2.1 ∧ agr2 nx ρ ρ1 ∧ (∀ ρ', agr2 q.2.2.1 ρ1 ρ' → tOk ρ' q.2.2.2.1 ∧ fOk ρ' q.2.2.2.2 ∧ rel2 (crel ρ') cσ q.1) ∧ (∀ ρ', agr2 q.2.2.1 ρ1 ρ' → prOk PPk ρ' cσ q.2.1) :=
  ⟨_, List.mem_cons_self, ρ, Nat.le_refl _, agr2.rf, fun ρ' ha => ⟨(hr ρ' ha).1, (hr ρ' ha).2.1, (hr ρ' ha).2.2.2⟩, fun ρ' ha => List.forall_mem_cons.mpr ⟨h ρ' ha, hp ρ' ha⟩⟩
theorem hOpen_ok (at_ loc kd : Nat) : HFOk PPk (hOpen at_ loc kd) := by
  intro pc lv A pr nx tab fs L ρ clv cσ h hr hp
  have hr' : ∀ ρ', agr2 nx ρ ρ' → tOk ρ' tab ∧ fOk ρ' fs ∧ rel2 (crel ρ') cσ A := fun ρ' ha => ⟨(hr ρ' ha).1, (hr ρ' ha).2.1, (hr ρ' ha).2.2.2⟩
  have hel : ∀ (q i : Nat), i < (arrI (cσ.getD q (.inl (0, [])))).length → elOk cσ (q, i, lo32, hi32) := fun q i hi => el_of hi (gI_32 _ _).1 (gI_32 _ _).2
  unfold hOpen at h
  cases h0 : Nat.beq pc at_ with
  | false => rw [h0] at h; cases h
  | true =>
    rw [h0] at h
    simp only [cond_true] at h
    split at h
    · split at h
      · rename_i v hv
        split at h
        · rename_i kk t a b c hf
          have hm := List.mem_of_find?_eq_some hf
          have hk0 := List.find?_some (p := fun p : PD => Nat.beq p.1 0) hf
          have hk := Nat.eq_of_beq_eq_true hk0
          try dsimp only at hk
          subst hk
          cases z : Nat.blt v 60 with
          | false => rw [z] at h; cases h
          | true =>
            rw [z] at h
            have hv' := blt_iff.mp z
            have hP : okProg _ _ _ _ := hp ρ agr2.rf _ hm
            refine allCases_ok hr' (fun ρ' ha => List.forall_mem_cons.mpr ⟨?_, hp ρ' ha⟩) _ L (cT h) ⟨_, List.mem_cons_self, List.forall_mem_cons.mpr ⟨hel _ _ (by rw [hP.1.1]; exact hv'), List.forall_mem_cons.mpr ⟨hel _ _ (by rw [hP.1.2.1]; exact hv'), List.forall_mem_cons.mpr ⟨hel _ _ (by rw [hP.1.2.2.1]; exact hv'), List.forall_mem_cons.mpr ⟨hel _ _ (by rw [hP.1.2.2.2]; exact hv'), fun _ hh => (by cases hh)⟩⟩⟩⟩⟩
            exact (show PPo (v + 1000) [_, _, _, _] from (PPk_4 ▸ ⟨⟨by omega, by omega⟩, hP.1, fun i hi _ => hP.2 i hi⟩))
        · rename_i kk q hf
          have hm := List.mem_of_find?_eq_some hf
          have hk0 := List.find?_some (p := fun p : PD => Nat.beq p.1 1) hf
          have hk := Nat.eq_of_beq_eq_true hk0
          try dsimp only at hk
          subst hk
          cases z : Nat.blt v 120 with
          | false => rw [z] at h; cases h
          | true =>
            rw [z] at h
            have hv' := blt_iff.mp z
            have hP : okSteps _ := hp ρ agr2.rf _ hm
            refine allCases_ok hr' (fun ρ' ha => List.forall_mem_cons.mpr ⟨?_, hp ρ' ha⟩) _ L (cT h) ⟨_, List.mem_cons_self, List.forall_mem_cons.mpr ⟨hel _ _ (by rw [hP.1]; omega), List.forall_mem_cons.mpr ⟨hel _ _ (by rw [hP.1]; omega), List.forall_mem_cons.mpr ⟨hel _ _ (by rw [hP.1]; omega), List.forall_mem_cons.mpr ⟨hel _ _ (by rw [hP.1]; omega), fun _ hh => (by cases hh)⟩⟩⟩⟩⟩
            exact (show PPo (v + 1000 + 1000) [_] from (PPk_1 ▸ Or.inl ⟨by omega, hP.1, fun i hi _ => hP.2 i hi⟩))
        · cases h
      · cases h
    · cases h
/-- the first hint that speaks -/
noncomputable def hOr (f g : HF) : HF := fun pc lv A pr nx tab fs => match f pc lv A pr nx tab fs with
  | some L => some L
  | none => g pc lv A pr nx tab fs
theorem hOr_ok {PP : Nat → List (List Int32) → List Int → Prop} {f g : HF} (hf : HFOk PP f) (hg : HFOk PP g) : HFOk PP (hOr f g) := by
  intro pc lv A pr nx tab fs L ρ clv cσ h hr hp
  unfold hOr at h
  split at h
  · rename_i L' h1
    cases h
    exact hf pc lv A pr nx tab fs L ρ clv cσ h1 hr hp
  · exact hg pc lv A pr nx tab fs L ρ clv cσ h hr hp
/-- a place at which a record is closed -/
noncomputable def recAt (tab : Tb) (A : AH) (t ti a ai b bi c ci : Nat) : Bool := match cellB tab A t ti, cellB tab A a ai, cellB tab A b bi, cellB tab A c ci with
  | some x, some y, some z, some w => recB x y z w
  | _, _, _, _ => false
theorem recAt_ok {σ : SH} {A : AH} {ρ : Nat → Int} {tab : Tb} (ht : tOk ρ tab) (hr : rel2 (crel ρ) σ A) {t ti a ai b bi c ci : Nat} (h : recAt tab A t ti a ai b bi c ci = true) : okRec (gI (arrI (σ.getD t (.inl (0, [])))) ti) (gI (arrI (σ.getD a (.inl (0, [])))) ai) (gI (arrI (σ.getD b (.inl (0, [])))) bi) (gI (arrI (σ.getD c (.inl (0, [])))) ci) := by
  unfold recAt at h
  split at h
  · rename_i x y z w h1 h2 h3 h4
    exact recB_ok h (cellB_ok ht hr h1).2 (cellB_ok ht hr h2).2 (cellB_ok ht hr h3).2 (cellB_ok ht hr h4).2
  · cases h
noncomputable def hClose (at_ loc kd : Nat) : HF := fun pc lv A pr nx tab fs => bif Nat.beq pc at_ then (match srcV loc lv A with
  | some (.inl (false, e)) => (match cst tab e with
    | some (.ofNat v) => (match kd with
      | 0 => (match pr.find? (fun p => Nat.beq p.1 (Nat.add v 1000)) with
        | some (_, [t, a, b, c], []) => bif recAt tab A t v a v b v c v then some [(A, (0, [t, a, b, c], []) :: pr, nx, tab, fs)] else none
        | _ => none)
      | _ => (match pr.find? (fun p => Nat.beq p.1 (Nat.add (Nat.add v 1000) 1000)) with
        | some (_, [q], []) => bif recAt tab A q (200 + 4 * v) q (201 + 4 * v) q (202 + 4 * v) q (203 + 4 * v) then some [(A, (1, [q], []) :: pr, nx, tab, fs)] else none
        | _ => none))
    | _ => none)
  | _ => none) else none
theorem hClose_ok (at_ loc kd : Nat) : HFOk PPk (hClose at_ loc kd) := by
  intro pc lv A pr nx tab fs L ρ clv cσ h hr hp
  have hr0 := hr ρ agr2.rf
  unfold hClose at h
  cases h0 : Nat.beq pc at_ with
  | false => rw [h0] at h; cases h
  | true =>
    rw [h0] at h
    simp only [cond_true] at h
    split at h
    · split at h
      · rename_i v hv
        split at h
        · split at h
          · rename_i kk t a b c hf
            have hm := List.mem_of_find?_eq_some hf
            have hk0 := List.find?_some (p := fun p : PD => Nat.beq p.1 (Nat.add v 1000)) hf
            have hk := Nat.eq_of_beq_eq_true hk0
            try dsimp only at hk
            subst hk
            cases z : recAt tab A t v a v b v c v with
            | false => rw [z] at h; cases h
            | true =>
              rw [z] at h
              cases h
              have hP : (1000 ≤ v + 1000 ∧ v + 1000 < 2000) ∧ okProgB (v + 1000 - 1000) _ _ _ _ := (show PPo (v + 1000) [_, _, _, _] from hp ρ agr2.rf _ hm)
              refine hOne hr hp (fun _ _ => show okProg _ _ _ _ from ⟨hP.2.1, fun i hi => ?_⟩)
              rcases Nat.decEq i v with hne | he
              · exact hP.2.2 i hi (by omega)
              · subst he
                exact recAt_ok hr0.1 hr0.2.2.2 z
          · cases h
        · split at h
          · rename_i kk q hf
            have hm := List.mem_of_find?_eq_some hf
            have hk0 := List.find?_some (p := fun p : PD => Nat.beq p.1 (Nat.add (Nat.add v 1000) 1000)) hf
            have hk := Nat.eq_of_beq_eq_true hk0
            try dsimp only at hk
            subst hk
            cases z : recAt tab A q (200 + 4 * v) q (201 + 4 * v) q (202 + 4 * v) q (203 + 4 * v) with
            | false => rw [z] at h; cases h
            | true =>
              rw [z] at h
              cases h
              have hP : 2000 ≤ v + 1000 + 1000 ∧ okStepsB (v + 1000 + 1000 - 2000) _ := (show (2000 ≤ v + 1000 + 1000 ∧ okStepsB (v + 1000 + 1000 - 2000) _) ∨ ((600 ≤ v + 1000 + 1000 ∧ v + 1000 + 1000 < 1000) ∧ okHarmB (v + 1000 + 1000 - 600) _) from hp ρ agr2.rf _ hm).elim id (fun hx => absurd hx.1.2 (by omega))
              refine hOne hr hp (fun _ _ => show okSteps _ from ⟨hP.2.1, fun i hi => ?_⟩)
              rcases Nat.decEq i v with hne | he
              · exact hP.2.2 i hi (by omega)
              · subst he
                exact recAt_ok hr0.1 hr0.2.2.2 z
          · cases h
      · cases h
    · cases h
/-- all records right by bounds of whole rows: the four rows in the fields from f on of the object in local 0, or the row in field f -/
noncomputable def hullC (tab : Tb) (A : AH) (c n : Nat) : Option (Int × Int) := match A[c]? with
  | some (.inr (k, .inl s)) => bif Nat.blt k 100 then (bif Nat.beq (sgLen s) n then sgHull tab s 0 (Nat.sub n 1) else none) else none
  | _ => none
theorem hullC_ok {σ : SH} {A : AH} {ρ : Nat → Int} {tab : Tb} (ht : tOk ρ tab) (hr : rel2 (crel ρ) σ A) {c n : Nat} {lo hi : Int} (h : hullC tab A c n = some (lo, hi)) : (arrI (σ.getD c (.inl (0, [])))).length = n ∧ ∀ i, i < n → lo ≤ gI (arrI (σ.getD c (.inl (0, [])))) i ∧ gI (arrI (σ.getD c (.inl (0, [])))) i ≤ hi := by
  unfold hullC at h
  split at h
  · rename_i k s hc
    obtain ⟨cc, c1, c2⟩ := rel2_get hr hc
    cases hk : Nat.blt k 100 with
    | false => rw [hk] at h; cases h
    | true =>
      rw [hk] at h
      simp only [cond_true] at h
      obtain ⟨l, e1, e2⟩ := crI_inv (blt_iff.mp hk) c2
      subst e1
      cases hl : Nat.beq (sgLen s) n with
      | false => rw [hl] at h; cases h
      | true =>
        rw [hl] at h
        have e3 : arrI (σ.getD c (.inl (0, []))) = l := by rw [List.getD_eq_getElem?_getD, c1]; rfl
        rw [e3]
        refine ⟨(srel_len e2).trans (Nat.eq_of_beq_eq_true hl), fun i hi => ?_⟩
        obtain ⟨x, x1, x2, x3⟩ := sgHull_ok ht e2 h i (Nat.zero_le _) (Nat.le_sub_one_of_lt hi)
        have e4 : gI l i = x.toInt := by
          unfold gI
          rw [List.getD_eq_getElem?_getD, x1]
          rfl
        rw [e4]
        exact ⟨x2, x3⟩
  · cases h
noncomputable def recFour (tab : Tb) (A : AH) (t a b c : Nat) : Bool := match hullC tab A t 60, hullC tab A a 60, hullC tab A b 60, hullC tab A c 60 with
  | some x, some y, some z, some w => recB x y z w
  | _, _, _, _ => false
noncomputable def recOne (tab : Tb) (A : AH) (q : Nat) : Bool := match hullC tab A q 910 with
  | some x => recB x x x x
  | _ => false
noncomputable def refAt (as : List AV) (f : Nat) : Option Nat := match as[f]? with
  | some (.inr (.inl (some q))) => some q
  | _ => none
noncomputable def hNew (at_ f kd : Nat) : HF := fun pc lv A pr nx tab fs => bif Nat.beq pc at_ then (match alGet 0 lv with
  | some (.inr (.inl (some q))) => (match A[q]? with
    | some (.inl (_, as)) => (match kd with
      | 0 => (match refAt as f, refAt as (Nat.succ f), refAt as (Nat.succ (Nat.succ f)), refAt as (Nat.succ (Nat.succ (Nat.succ f))) with
        | some t, some a, some b, some c => bif recFour tab A t a b c then some [(A, (0, [t, a, b, c], []) :: pr, nx, tab, fs)] else none
        | _, _, _, _ => none)
      | _ => (match refAt as f with
        | some t => bif recOne tab A t then some [(A, (1, [t], []) :: pr, nx, tab, fs)] else none
        | _ => none))
    | _ => none)
  | _ => none) else none
theorem hNew_ok (at_ f kd : Nat) : HFOk PPk (hNew at_ f kd) := by
  intro pc lv A pr nx tab fs L ρ clv cσ h hr hp
  have hr0 := hr ρ agr2.rf
  unfold hNew at h
  cases h0 : Nat.beq pc at_ with
  | false => rw [h0] at h; cases h
  | true =>
    rw [h0] at h
    simp only [cond_true] at h
    split at h
    · split at h
      · split at h
        · split at h
          · rename_i t a b c _ _ _ _
            cases z : recFour tab A t a b c with
            | false => rw [z] at h; cases h
            | true =>
              rw [z] at h
              cases h
              unfold recFour at z
              split at z
              · rename_i x1 x2 x3 x4 y1 y2 y3 y4
                have g1 := hullC_ok hr0.1 hr0.2.2.2 y1
                have g2 := hullC_ok hr0.1 hr0.2.2.2 y2
                have g3 := hullC_ok hr0.1 hr0.2.2.2 y3
                have g4 := hullC_ok hr0.1 hr0.2.2.2 y4
                exact hOne hr hp (fun _ _ => show okProg _ _ _ _ from ⟨⟨g1.1, g2.1, g3.1, g4.1⟩, fun i hi => recB_ok z (g1.2 i hi) (g2.2 i hi) (g3.2 i hi) (g4.2 i hi)⟩)
              · cases z
          · cases h
        · split at h
          · rename_i t _
            cases z : recOne tab A t with
            | false => rw [z] at h; cases h
            | true =>
              rw [z] at h
              cases h
              unfold recOne at z
              split at z
              · rename_i x1 y1
                have g1 := hullC_ok hr0.1 hr0.2.2.2 y1
                exact hOne hr hp (fun _ _ => show okSteps _ from ⟨g1.1, fun i hi => recB_ok z (g1.2 _ (by omega)) (g1.2 _ (by omega)) (g1.2 _ (by omega)) (g1.2 _ (by omega))⟩)
              · cases z
          · cases h
      · cases h
    · cases h
