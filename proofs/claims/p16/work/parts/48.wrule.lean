/-! ===== rules: what follows from words of numbers ===== -/
abbrev RW : Type := Nat × List Ln
/-- how many symbols the premises have; premises, facts; what follows, facts that follow; which premises go; new symbols; whether it can't be -/
abbrev RU : Type := Nat × List RW × List Ln × List RW × List Ln × List Nat × Nat × Bool
noncomputable def wOkR (ρ : Nat → Int) (w : RW) : Prop := PPk w.1 [] (w.2.map (ev ρ))
noncomputable def rwB (n : Nat) (w : RW) : Bool := w.2.all (scL n)
noncomputable def ruB (R : RU) : Bool := bif R.2.1.all (rwB R.1) then (bif R.2.2.1.all (scL R.1) then (bif R.2.2.2.1.all (rwB (R.1 + R.2.2.2.2.2.2.1)) then R.2.2.2.2.1.all (scL (R.1 + R.2.2.2.2.2.2.1)) else false) else false) else false
noncomputable def RuOk (R : RU) : Prop := ruB R = true ∧ ∀ ρ : Nat → Int, (∀ w ∈ R.2.1, wOkR ρ w) → (∀ f ∈ R.2.2.1, ev ρ f ≤ 0) → R.2.2.2.2.2.2.2 = false ∧ ∃ ρ', agr2 R.1 ρ ρ' ∧ (∀ w ∈ R.2.2.2.1, wOkR ρ' w) ∧ ∀ f ∈ R.2.2.2.2.1, ev ρ' f ≤ 0
-- the search: nothing of it is trusted
noncomputable def nthL (θ : List Ln) (i : Nat) : Ln := match θ, i with
  | [], _ => (0, [])
  | a :: _, 0 => a
  | _ :: r, i + 1 => nthL r i
/-- symbols in the order that they were found, the last first -/
noncomputable def thL (θ : List Ln) (m : Nat) : Th := fun s => nthL θ (Nat.sub (Nat.sub m 1) s)
noncomputable def lastT : List (Nat × Int) → List (Nat × Int) × Nat × Int
  | [] => ([], 0, 0)
  | [q] => ([], q)
  | q :: r => match lastT r with
    | (i, l) => (q :: i, l)
noncomputable def natP (k : Int) : Nat := match k with
  | .ofNat n => n
  | .negSucc _ => 0
noncomputable def mN1 (tab : Tb) (fs : List Ln) (θ : List Ln) (m : Nat) (x y : Ln) : Option (List Ln × Nat) := match x.2 with
  | [] => bif eqL tab fs x y then some (θ, m) else none
  | q :: r => (match lastT (q :: r) with
    | (i, s, k) => bif Nat.blt s m then (bif eqL tab fs (sbL (thL θ m) x) y then some (θ, m) else none) else bif (bif Nat.beq s m then (bif scT m i then Nat.blt 0 (natP k) else false) else false) then (match ndivL (subL y (sbL (thL θ m) (x.1, i))) (natP k) with
      | some d => some (d :: θ, Nat.succ m)
      | none => none) else none)
noncomputable def mNs (tab : Tb) (fs : List Ln) : List Ln → List Ln → List Ln → Nat → Option (List Ln × Nat)
  | [], [], θ, m => some (θ, m)
  | x :: xs, y :: ys, θ, m => (match mN1 tab fs θ m x y with
    | some (θ', m') => mNs tab fs xs ys θ' m'
    | none => none)
  | _, _, _, _ => none
noncomputable def fstW (f : Nat → PD → Option (List Ln × List Nat)) : List PD → Nat → Option (List Ln × List Nat)
  | [], _ => none
  | p :: r, i => match f i p with
    | some x => some x
    | none => fstW f r (Nat.succ i)
noncomputable def goR (tab : Tb) (fs : List Ln) (fin : List Ln → Nat → Bool) (pr : List PD) : List RW → List Ln → Nat → List Nat → Option (List Ln × List Nat)
  | [], θ, m, g => bif fin θ m then some (θ, g) else none
  | w :: R, θ, m, g => fstW (fun i p => bif Nat.beq p.1 w.1 then (match p.2.1 with
    | [] => (match mNs tab fs w.2 p.2.2 θ m with
      | some (θ', m') => goR tab fs fin pr R θ' m' (i :: g)
      | none => none)
    | _ :: _ => none) else none) pr 0
noncomputable def any2 (tab : Tb) (fs : List Ln) (e : Ln) : List Ln → Bool
  | [] => false
  | f :: r => bif (bif shT e.2 f.2 then le0 tab fs (subL e f) else false) then true else any2 tab fs e r
/-- by one fact, or by two -/
noncomputable def le2 (tab : Tb) (fs : List Ln) (e : Ln) : Bool := bif le0 tab fs e then true else any2 tab fs e fs
theorem le2_ok {ρ : Nat → Int} {tab : Tb} {fs : List Ln} (ht : tOk ρ tab) (hf : fOk ρ fs) {e : Ln} (h : le2 tab fs e = true) : ev ρ e ≤ 0 := by
  unfold le2 at h
  cases h1 : le0 tab fs e with
  | true => exact le0_ok ht hf h1
  | false =>
    rw [h1, cond_false] at h
    have key : ∀ {L : List Ln}, (∀ f ∈ L, ev ρ f ≤ 0) → any2 tab fs e L = true → ev ρ e ≤ 0 := by
      intro L
      induction L with
      | nil => intro _ h; cases h
      | cons f r ih =>
        intro hL h
        unfold any2 at h
        cases h2 : (bif shT e.2 f.2 then le0 tab fs (subL e f) else false) with
        | true =>
          have g := le0_ok ht hf (cand h2).2
          rw [ev_sub] at g
          have := hL f List.mem_cons_self
          omega
        | false =>
          rw [h2, cond_false] at h
          exact ih (fun f hf => hL f (List.mem_cons_of_mem _ hf)) h
    exact key hf h
noncomputable def hasW (tab : Tb) (fs : List Ln) (pr : List PD) (w : PD) : Bool := match fFn tab fs w.1 w.2.2 pr with
  | some [] => true
  | _ => false
noncomputable def sbW (θ : Th) (w : RW) : PD := (w.1, [], w.2.map (sbL θ))
/-- something new: facts hold, and not all that follows is known -/
noncomputable def finR (tab : Tb) (fs : List Ln) (pr : List PD) (R : RU) (θ : List Ln) (m : Nat) : Bool := bif R.2.2.1.all (fun f => le2 tab fs (sbL (thL θ m) f)) then (bif R.2.2.2.2.2.2.2 then true else bif Nat.beq R.2.2.2.2.2.2.1 0 then (match R.2.2.2.2.2.1 with
  | [] => bif R.2.2.2.1.all (fun w => hasW tab fs pr (sbW (thL θ m) w)) then (bif R.2.2.2.2.1.all (fun f => le0 tab fs (sbL (thL θ m) f)) then false else true) else true
  | _ => true) else true) else false
-- the check
noncomputable def nthP (pr : List PD) (i : Nat) : Option PD := match pr, i with
  | [], _ => none
  | a :: _, 0 => some a
  | _ :: r, i + 1 => nthP r i
theorem nthP_mem {p : PD} : ∀ {pr : List PD} {i : Nat}, nthP pr i = some p → p ∈ pr
  | [], _, h => by cases h
  | a :: r, 0, h => by cases h; exact List.mem_cons_self
  | a :: r, i + 1, h => List.mem_cons_of_mem _ (nthP_mem (h : nthP r i = some p))
/-- the premises, the last first -/
noncomputable def chkPr (tab : Tb) (fs : List Ln) (θ : Th) (pr : List PD) : List RW → List Nat → Bool
  | [], [] => true
  | w :: R, i :: g => (match nthP pr i with
    | some p => bif (bif Nat.beq p.1 w.1 then (match p.2.1 with
      | [] => eqLs tab fs (w.2.map (sbL θ)) p.2.2
      | _ :: _ => false) else false) then chkPr tab fs θ pr R g else false
    | none => false)
  | _, _ => false
noncomputable def thR (θ : List Ln) (n nx : Nat) : Th := fun s => bif Nat.blt s n then thL θ n s else sL (Nat.add nx (Nat.sub s n))
noncomputable def delIx (g : List Nat) : List PD → Nat → List PD
  | [], _ => []
  | p :: r, i => bif memN i g then delIx g r (Nat.succ i) else p :: delIx g r (Nat.succ i)
theorem delIx_mem {g : List Nat} {p : PD} : ∀ {pr : List PD} {i : Nat}, p ∈ delIx g pr i → p ∈ pr
  | [], _, h => by cases h
  | a :: r, i, h => by
    unfold delIx at h
    cases hm : memN i g with
    | true => rw [hm, cond_true] at h; exact List.mem_cons_of_mem _ (delIx_mem h)
    | false =>
      rw [hm, cond_false] at h
      rcases List.mem_cons.mp h with rfl | h
      · exact List.mem_cons_self
      · exact List.mem_cons_of_mem _ (delIx_mem h)
noncomputable def pickN (g : List Nat) : List Nat → List Nat
  | [] => []
  | u :: r => (g.getD u 1000000) :: pickN g r
noncomputable def addFs : List Ln → Tb → List Ln → Option (Tb × List Ln)
  | [], tab, fs => some (tab, fs)
  | f :: r, tab, fs => match addLe tab fs f with
    | some (tab', fs') => addFs r tab' fs'
    | none => none
theorem addFs_ok {ρ : Nat → Int} : ∀ (L : List Ln) (tab : Tb) (fs : List Ln), tOk ρ tab → fOk ρ fs → (∀ f ∈ L, ev ρ f ≤ 0) → ∃ tab' fs', addFs L tab fs = some (tab', fs') ∧ tOk ρ tab' ∧ fOk ρ fs'
  | [], tab, fs, h1, h2, _ => ⟨tab, fs, rfl, h1, h2⟩
  | f :: r, tab, fs, h1, h2, h3 => by
    obtain ⟨t, g, e, a1, a2⟩ := addLe_ok h1 h2 (h3 f List.mem_cons_self)
    obtain ⟨t', g', e', b1, b2⟩ := addFs_ok r t g a1 a2 (fun f hf => h3 f (List.mem_cons_of_mem _ hf))
    refine ⟨t', g', ?_, b1, b2⟩
    unfold addFs
    rw [e]
    exact e'
abbrev RS : Type := List PD × Nat × Tb × List Ln
noncomputable def isNil {α : Type} (l : List α) : Bool := match l with
  | [] => true
  | _ => false
noncomputable def rlSome (pr1 : List PD) (nx : Nat) (tab : Tb) (fs : List Ln) (ws : List PD) (cf : List Ln) (go0 : Bool) : Option (Option RS) := bif (bif isNil ws then (bif isNil cf then go0 else false) else false) then none else match addFs cf tab fs with
  | some (tab', fs') => some (some (ws ++ pr1, nx, tab', fs'))
  | none => some none
theorem rlSome_ok {ρ1 : Nat → Int} {cσ : SH} {pr1 : List PD} {nx : Nat} {tab : Tb} {fs : List Ln} {ws : List PD} {cf : List Ln} {go0 : Bool} {x : Option RS} (h : rlSome pr1 nx tab fs ws cf go0 = some x) (hg : ∀ ρ', agr2 nx ρ1 ρ' → tOk ρ' tab ∧ fOk ρ' fs ∧ prOk PPk ρ' cσ pr1 ∧ prOk PPk ρ' cσ ws ∧ ∀ f ∈ cf, ev ρ' f ≤ 0) : ∃ s, x = some s ∧ s.2.1 = nx ∧ ∀ ρ', agr2 nx ρ1 ρ' → tOk ρ' s.2.2.1 ∧ fOk ρ' s.2.2.2 ∧ prOk PPk ρ' cσ s.1 := by
  unfold rlSome at h
  cases hc : (bif isNil ws then (bif isNil cf then go0 else false) else false) with
  | true => rw [hc] at h; cases h
  | false =>
    rw [hc, cond_false] at h
    obtain ⟨t1, t2, t3, t4, t5⟩ := hg ρ1 agr2.rf
    obtain ⟨tab', fs', e, -, -⟩ := addFs_ok cf tab fs t1 t2 t5
    rw [e] at h
    cases h
    refine ⟨_, rfl, rfl, fun ρ' ha => ?_⟩
    obtain ⟨u1, u2, u3, u4, u5⟩ := hg ρ' ha
    obtain ⟨tab2, fs2, e2, a1, a2⟩ := addFs_ok cf tab fs u1 u2 u5
    rw [e] at e2
    cases e2
    exact ⟨a1, a2, fun p hp => (List.mem_append.mp hp).elim (u4 p) (u3 p)⟩
/-- a rule once: none: it doesn't apply; some none: this can't be -/
noncomputable def rlOne (R : RU) (pr : List PD) (nx : Nat) (tab : Tb) (fs : List Ln) : Option (Option RS) := match goR tab fs (finR tab fs pr R) pr R.2.1 [] 0 [] with
  | none => none
  | some (θ, g) => bif (bif chkPr tab fs (thL θ R.1) pr R.2.1.reverse g then (bif R.2.2.1.all (fun f => le2 tab fs (sbL (thL θ R.1) f)) then (bif Nat.beq R.2.2.2.2.2.2.1 0 then true else θ.all (scL nx)) else false) else false) then (bif R.2.2.2.2.2.2.2 then some none else rlSome (delIx (pickN g.reverse R.2.2.2.2.2.1) pr 0) (Nat.add nx R.2.2.2.2.2.2.1) tab fs ((R.2.2.2.1.map (sbW (thR θ R.1 nx))).filter (fun w => !hasW tab fs (delIx (pickN g.reverse R.2.2.2.2.2.1) pr 0) w)) ((R.2.2.2.2.1.map (sbL (thR θ R.1 nx))).filter (fun f => !le0 tab fs f)) (isNil R.2.2.2.2.2.1)) else none
noncomputable def rlRep (R : RU) : Nat → RS → Bool → Option (RS × Bool)
  | 0, s, d => some (s, d)
  | c + 1, s, d => match rlOne R s.1 s.2.1 s.2.2.1 s.2.2.2 with
    | none => some (s, d)
    | some none => none
    | some (some s') => rlRep R c s' true
noncomputable def rlAll : List (Nat × RU) → RS → Bool → Option (RS × Bool)
  | [], s, d => some (s, d)
  | (c, R) :: r, s, d => match rlRep R c s d with
    | none => none
    | some (s', d') => rlAll r s' d'
noncomputable def fRl (L : List (Nat × RU)) : HF := fun _ _ A pr nx tab fs => match rlAll L (pr, nx, tab, fs) false with
  | none => some []
  | some (s, d) => bif d then some [(A, s.1, s.2.1, s.2.2.1, s.2.2.2)] else none
section RULE
variable {ρ : Nat → Int} {cσ : SH}
theorem chkPr_ok {tab : Tb} {fs : List Ln} {θ : Th} {pr : List PD} (ht : tOk ρ tab) (hf : fOk ρ fs) (hp : prOk PPk ρ cσ pr) : ∀ {R : List RW} {g : List Nat}, chkPr tab fs θ pr R g = true → ∀ w ∈ R, wOkR (thE ρ θ) w
  | [], _, _ => fun w hw => (by cases hw)
  | w :: R, [], h => by cases h
  | w :: R, i :: g, h => by
    unfold chkPr at h
    split at h
    · rename_i p hp1
      cases h1 : (bif Nat.beq p.1 w.1 then (match p.2.1 with
        | [] => eqLs tab fs (w.2.map (sbL θ)) p.2.2
        | _ :: _ => false) else false) with
      | false => rw [h1] at h; cases h
      | true =>
        rw [h1, cond_true] at h
        obtain ⟨a1, a2⟩ := cand h1
        have hpm := hp p (nthP_mem hp1)
        refine List.forall_mem_cons.mpr ⟨?_, chkPr_ok ht hf hp h⟩
        obtain ⟨pk, pl, pn⟩ := p
        try dsimp only at a1 a2 hpm
        have ek := Nat.eq_of_beq_eq_true a1
        subst ek
        match pl, a2 with
        | [], a2 =>
          have e := eqLs_ok ht hf a2
          rw [List.map_map] at e
          have e2 : w.2.map (ev ρ ∘ sbL θ) = w.2.map (ev (thE ρ θ)) := List.map_congr_left fun x _ => ev_sb ρ θ x
          rw [e2] at e
          show PPk w.1 [] (w.2.map (ev (thE ρ θ)))
          rw [e]
          exact hpm
    · cases h
theorem sbW_ok {θ : Th} {w : RW} (h : wOkR (thE ρ θ) w) : PPk (sbW θ w).1 ((sbW θ w).2.1.map (fun i => arrK (sbW θ w).1 (cσ.getD i (.inl (0, []))))) ((sbW θ w).2.2.map (ev ρ)) := by
  show PPk w.1 [] ((w.2.map (sbL θ)).map (ev ρ))
  rw [List.map_map]
  have e2 : w.2.map (ev ρ ∘ sbL θ) = w.2.map (ev (thE ρ θ)) := List.map_congr_left fun x _ => ev_sb ρ θ x
  rw [e2]
  exact h
theorem wOkR_agr {n : Nat} {ρ ρ' : Nat → Int} {w : RW} (hn : rwB n w = true) (ha : agr2 n ρ ρ') (h : wOkR ρ w) : wOkR ρ' w := by
  show PPk w.1 [] (w.2.map (ev ρ'))
  rw [map_agr ha hn]
  exact h
theorem rlOne_ok {R : RU} (hR : RuOk R) {pr : List PD} {nx : Nat} {tab : Tb} {fs : List Ln} {x : Option RS} (h : rlOne R pr nx tab fs = some x) (hr : ∀ ρ', agr2 nx ρ ρ' → tOk ρ' tab ∧ fOk ρ' fs ∧ prOk PPk ρ' cσ pr) : ∃ s, x = some s ∧ ∃ ρ1, nx ≤ s.2.1 ∧ agr2 nx ρ ρ1 ∧ ∀ ρ', agr2 s.2.1 ρ1 ρ' → tOk ρ' s.2.2.1 ∧ fOk ρ' s.2.2.2 ∧ prOk PPk ρ' cσ s.1 := by
  obtain ⟨hB, hS⟩ := hR
  unfold ruB at hB
  obtain ⟨b1, hB⟩ := cand hB
  obtain ⟨b2, hB⟩ := cand hB
  obtain ⟨b3, b4⟩ := cand hB
  have b1' := List.all_eq_true.mp b1
  have b3' := List.all_eq_true.mp b3
  have b4' := List.all_eq_true.mp b4
  unfold rlOne at h
  split at h
  · cases h
  · rename_i θ g hgo
    cases hc : (bif chkPr tab fs (thL θ R.1) pr R.2.1.reverse g then (bif R.2.2.1.all (fun f => le2 tab fs (sbL (thL θ R.1) f)) then (bif Nat.beq R.2.2.2.2.2.2.1 0 then true else θ.all (scL nx)) else false) else false) with
    | false => rw [hc] at h; cases h
    | true =>
      rw [hc, cond_true] at h
      obtain ⟨c1, hc⟩ := cand hc
      obtain ⟨c2, c3⟩ := cand hc
      have c2' := List.all_eq_true.mp c2
      -- what the rule says, at each valuation
      have at' : ∀ ρ', agr2 nx ρ ρ' → R.2.2.2.2.2.2.2 = false ∧ ∃ σ, agr2 R.1 (thE ρ' (thL θ R.1)) σ ∧ (∀ w ∈ R.2.2.2.1, wOkR σ w) ∧ ∀ f ∈ R.2.2.2.2.1, ev σ f ≤ 0 := fun ρ' ha => by
        obtain ⟨t1, t2, t3⟩ := hr ρ' ha
        refine hS (thE ρ' (thL θ R.1)) (fun w hw => ?_) (fun f hf => ?_)
        · exact chkPr_ok t1 t2 t3 c1 w (List.mem_reverse.mpr hw)
        · have := le2_ok t1 t2 (c2' f hf)
          rw [ev_sb] at this
          exact this
      cases hA : R.2.2.2.2.2.2.2 with
      | true =>
        have := (at' ρ agr2.rf).1
        rw [hA] at this
        cases this
      | false =>
        rw [hA, cond_false] at h
        obtain ⟨-, σ0, s1, s2, s3⟩ := at' ρ agr2.rf
        -- the valuation with the new symbols
        let ρ1 : Nat → Int := fun j => if j < nx then ρ j else σ0 (R.1 + (j - nx))
        have hag1 : agr2 nx ρ ρ1 := fun j hj => if_pos hj
        have key : ∀ ρ', agr2 (nx + R.2.2.2.2.2.2.1) ρ1 ρ' → ∃ σ, (∀ w ∈ R.2.2.2.1, wOkR σ w) ∧ (∀ f ∈ R.2.2.2.2.1, ev σ f ≤ 0) ∧ agr2 (R.1 + R.2.2.2.2.2.2.1) σ (thE ρ' (thR θ R.1 nx)) := fun ρ' ha => by
          have ha0 : agr2 nx ρ ρ' := fun j hj => (ha j (by omega)).trans (hag1 j hj)
          have lo : ∀ s, s < R.1 → thE ρ' (thR θ R.1 nx) s = thE ρ' (thL θ R.1) s := fun s hs => by
            show ev ρ' (thR θ R.1 nx s) = ev ρ' (thL θ R.1 s)
            unfold thR
            rw [blt_iff.mpr hs]
            rfl
          cases hm : Nat.beq R.2.2.2.2.2.2.1 0 with
          | true =>
            have e0 := Nat.eq_of_beq_eq_true hm
            obtain ⟨-, σ, q1, q2, q3⟩ := at' ρ' ha0
            refine ⟨σ, q2, q3, fun s hs => ?_⟩
            rw [e0] at hs
            rw [lo s (by omega), q1 s (by omega)]
          | false =>
            rw [hm, cond_false] at c3
            have c3' := List.all_eq_true.mp c3
            refine ⟨σ0, s2, s3, fun s hs => ?_⟩
            by_cases hlt : s < R.1
            · rw [lo s hlt, s1 s hlt]
              show ev ρ' (thL θ R.1 s) = ev ρ (thL θ R.1 s)
              have hsc : scL nx (thL θ R.1 s) = true := by
                have : ∀ (L : List Ln) (i : Nat), (∀ e ∈ L, scL nx e = true) → scL nx (nthL L i) = true := by
                  intro L
                  induction L with
                  | nil => intro i _; cases i <;> rfl
                  | cons a r ih =>
                    intro i hL
                    cases i with
                    | zero => exact hL a List.mem_cons_self
                    | succ i => exact ih i (fun e he => hL e (List.mem_cons_of_mem _ he))
                exact this θ _ c3'
              exact scL_ev ha0 hsc
            · have e1 : thE ρ' (thR θ R.1 nx) s = ρ' (nx + (s - R.1)) := by
                show ev ρ' (thR θ R.1 nx s) = _
                unfold thR
                have e2 : Nat.blt s R.1 = false := by
                  cases z : Nat.blt s R.1 with
                  | false => rfl
                  | true => exact absurd (blt_iff.mp z) hlt
                rw [e2, cond_false]
                exact ev_s _ _
              rw [e1, ha (nx + (s - R.1)) (by omega)]
              show (if nx + (s - R.1) < nx then ρ (nx + (s - R.1)) else σ0 (R.1 + (nx + (s - R.1) - nx))) = σ0 s
              rw [if_neg (by omega)]
              congr 1
              omega
        have good : ∀ ρ', agr2 (nx + R.2.2.2.2.2.2.1) ρ1 ρ' → tOk ρ' tab ∧ fOk ρ' fs ∧ prOk PPk ρ' cσ pr ∧ (∀ w ∈ R.2.2.2.1.map (sbW (thR θ R.1 nx)), PPk w.1 (w.2.1.map (fun i => arrK w.1 (cσ.getD i (.inl (0, []))))) (w.2.2.map (ev ρ'))) ∧ ∀ f ∈ R.2.2.2.2.1.map (sbL (thR θ R.1 nx)), ev ρ' f ≤ 0 := fun ρ' ha => by
          obtain ⟨t1, t2, t3⟩ := hr ρ' (fun j hj => (ha j (by omega)).trans (hag1 j hj))
          obtain ⟨σ, k1, k2, k3⟩ := key ρ' ha
          refine ⟨t1, t2, t3, fun w hw => ?_, fun f hf => ?_⟩
          · obtain ⟨v, hv, rfl⟩ := List.mem_map.mp hw
            exact sbW_ok (wOkR_agr (b3' v hv) k3 (k1 v hv))
          · obtain ⟨v, hv, rfl⟩ := List.mem_map.mp hf
            rw [ev_sb]
            have e : ev (thE ρ' (thR θ R.1 nx)) v = ev σ v := scL_ev k3 (b4' v hv)
            show ev (thE ρ' (thR θ R.1 nx)) v ≤ 0
            rw [e]
            exact k2 v hv
        obtain ⟨S, e, e2, q⟩ := rlSome_ok (ρ1 := ρ1) (cσ := cσ) h (fun ρ' ha => by
          obtain ⟨t1, t2, t3, t4, t5⟩ := good ρ' ha
          exact ⟨t1, t2, fun p hp => t3 p (delIx_mem hp), fun p hp => t4 p (List.mem_filter.mp hp).1, fun f hf => t5 f (List.mem_filter.mp hf).1⟩)
        refine ⟨S, e, ρ1, by rw [e2]; exact Nat.le_add_right _ _, hag1, ?_⟩
        rw [e2]
        exact q
theorem rlRep_ok {R : RU} (hR : RuOk R) : ∀ (c : Nat) (s : RS) (d : Bool) (ρ : Nat → Int), (∀ ρ', agr2 s.2.1 ρ ρ' → tOk ρ' s.2.2.1 ∧ fOk ρ' s.2.2.2 ∧ prOk PPk ρ' cσ s.1) → ∃ s' d', rlRep R c s d = some (s', d') ∧ ∃ ρ1, s.2.1 ≤ s'.2.1 ∧ agr2 s.2.1 ρ ρ1 ∧ ∀ ρ', agr2 s'.2.1 ρ1 ρ' → tOk ρ' s'.2.2.1 ∧ fOk ρ' s'.2.2.2 ∧ prOk PPk ρ' cσ s'.1 := by
  intro c
  induction c with
  | zero => intro s d ρ hs; exact ⟨s, d, rfl, ρ, Nat.le_refl _, agr2.rf, hs⟩
  | succ c ih =>
    intro s d ρ hs
    unfold rlRep
    cases h : rlOne R s.1 s.2.1 s.2.2.1 s.2.2.2 with
    | none => exact ⟨s, d, rfl, ρ, Nat.le_refl _, agr2.rf, hs⟩
    | some x =>
      obtain ⟨s1, e, ρ1, r1, r2, r3⟩ := rlOne_ok hR h hs
      subst e
      obtain ⟨s2, d2, e2, ρ2, q1, q2, q3⟩ := ih s1 true ρ1 r3
      exact ⟨s2, d2, e2, ρ2, by omega, fun j hj => (q2 j (by omega)).trans (r2 j hj), q3⟩
theorem rlAll_ok : ∀ (L : List (Nat × RU)), (∀ q ∈ L, RuOk q.2) → ∀ (s : RS) (d : Bool) (ρ : Nat → Int), (∀ ρ', agr2 s.2.1 ρ ρ' → tOk ρ' s.2.2.1 ∧ fOk ρ' s.2.2.2 ∧ prOk PPk ρ' cσ s.1) → ∃ s' d', rlAll L s d = some (s', d') ∧ ∃ ρ1, s.2.1 ≤ s'.2.1 ∧ agr2 s.2.1 ρ ρ1 ∧ ∀ ρ', agr2 s'.2.1 ρ1 ρ' → tOk ρ' s'.2.2.1 ∧ fOk ρ' s'.2.2.2 ∧ prOk PPk ρ' cσ s'.1 := by
  intro L
  induction L with
  | nil => intro _ s d ρ hs; exact ⟨s, d, rfl, ρ, Nat.le_refl _, agr2.rf, hs⟩
  | cons q r ih =>
    intro hL s d ρ hs
    obtain ⟨c, R⟩ := q
    unfold rlAll
    obtain ⟨s1, d1, e1, ρ1, r1, r2, r3⟩ := rlRep_ok (hL _ List.mem_cons_self) c s d ρ hs
    obtain ⟨s2, d2, e2, ρ2, q1, q2, q3⟩ := ih (fun q hq => hL q (List.mem_cons_of_mem _ hq)) s1 d1 ρ1 r3
    rw [e1]
    exact ⟨s2, d2, e2, ρ2, by omega, fun j hj => (q2 j (by omega)).trans (r2 j hj), q3⟩
theorem fRl_ok {L : List (Nat × RU)} (hL : ∀ q ∈ L, RuOk q.2) : HFOk PPk (fRl L) := by
  intro pc lv A pr nx tab fs L' ρ clv cσ h hr hp
  unfold fRl at h
  obtain ⟨s, d, e, ρ1, r1, r2, r3⟩ := rlAll_ok (cσ := cσ) L hL (pr, nx, tab, fs) false ρ (fun ρ' ha => ⟨(hr ρ' ha).1, (hr ρ' ha).2.1, hp ρ' ha⟩)
  rw [e] at h
  try dsimp only at h
  cases d with
  | false => cases h
  | true =>
    cases h
    refine ⟨_, List.mem_singleton.mpr rfl, ρ1, r1, r2, fun ρ' ha => ?_, fun ρ' ha => (r3 ρ' ha).2.2⟩
    obtain ⟨a1, a2, a3⟩ := r3 ρ' ha
    exact ⟨a1, a2, (hr ρ' (fun j hj => (ha j (by dsimp only at r1 ⊢; omega)).trans (r2 j hj))).2.2.2⟩
end RULE
/-- a valuation with one more symbol -/
noncomputable def ex1 (ρ : Nat → Int) (n : Nat) (v : Int) : Nat → Int := fun j => bif Nat.beq j n then v else ρ j
theorem ex1_agr {n m : Nat} {ρ0 ρ : Nat → Int} {v : Int} (h : n ≤ m) (ha : agr2 n ρ0 ρ) : agr2 n ρ0 (ex1 ρ m v) := fun j hj => by
  unfold ex1
  rw [nbeq (by omega), cond_false]
  exact ha j hj
