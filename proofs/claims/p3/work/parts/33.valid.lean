/-! ===== the runner's word holds; points, contracts ===== -/
section VAL
variable {PP : Nat → List (List Int32) → List Int → Prop} {scr : Option (List Int32)} {scl : Option SL} {ini : Bool} {o nL : Nat} {tb : List (List (Option XE))} {d : Nat} {G : List Ln} {G0 : List Int} {rk : Option Ln} {K : Int} {Q : Res → Prop}
variable {ρ : Nat → Int} {nx : Nat} {tab : Tb} {fs : List Ln} {st rest : List AV} {lv : AL} {A : AH} {pr : List PD} {cst cr : List Value} {clv : LV} {cσ : SH}
noncomputable def FinOk (PP : Nat → List (List Int32) → List Int → Prop) (G : List Ln) (G0 : List Int) (Q : Res → Prop) (fin : FN) : Prop :=
  ∀ (ρ : Nat → Int) (r : Option AV) (A : AH) (pr : List PD) (tab : Tb) (fs : List Ln) (ca cb : Nat) (v : Option Value) (σ : SH) (cca ccb : Nat), fin r A pr tab fs ca cb = true → tOk ρ tab → fOk ρ fs → rel2 (vrel ρ) v.toList r.toList → rel2 (crel ρ) σ A → G.map (ev ρ) = G0 → prOk PP ρ σ pr → cca ≤ ca → ccb ≤ cb → Q (v, σ, cca, ccb)
theorem step6 {fin : FN} {i : Instr} {len a b w pc ca cb cca ccb : Nat} (hF : FinOk PP G G0 Q fin) (hg : tbGet tb pc = some (i, len, 6, a, b, w)) (hi : Inv PP scr scl G G0 rk K ρ nx tab fs st lv A pr cst clv cσ) (h : g6 fin i st A pr tab fs ca cb = true) (h1 : cca ≤ ca) (h2 : ccb ≤ cb) : Good scr ini o nL tb d Q (pc, cst, clv, cσ, cca, ccb) := by
  have no : ∀ {P : Prop}, false = true → P := fun h => by cases h
  obtain ⟨q1, q2, q3, q4, q5, q6, -⟩ := hi.1 ρ agr2.rf
  have fin' : ∀ (v : Option Value) (r : Option AV), stepR i cst = some v → fin r A pr tab fs ca cb = true → rel2 (vrel ρ) v.toList r.toList → Good scr ini o nL tb d Q (pc, cst, clv, cσ, cca, ccb) := fun v r hs hf hr => ⟨_, Ex.ret hg hs, hF ρ r A pr tab fs ca cb v cσ cca ccb hf q1 q2 hr q5 q6 (hi.2.1 ρ agr2.rf) h1 h2⟩
  cases i with
  | ireturn =>
    simp only [g6] at h
    split at h
    · obtain ⟨v, l, e, h3, h4⟩ := rel2_cons q3
      have e2 := rel2_nil h4
      subst e2
      obtain ⟨x, e1, hx⟩ := vI_inv h3
      subst e; subst e1
      exact fin' (some (.int x)) _ rfl h ⟨h3, trivial⟩
    · cases h
  | lreturn =>
    simp only [g6] at h
    split at h
    · obtain ⟨v, l, e, h3, h4⟩ := rel2_cons q3
      have e2 := rel2_nil h4
      subst e2
      obtain ⟨x, e1, hx⟩ := vJ_inv h3
      subst e; subst e1
      exact fin' (some (.long x)) _ rfl h ⟨h3, trivial⟩
    · cases h
  | return_ =>
    simp only [g6] at h
    split at h
    · have e2 := rel2_nil q3
      subst e2
      exact fin' none none rfl h trivial
    · cases h
  | _ => exact no h
theorem findE_ok {q : Nat} {e v : Ln} {pr : List PD} (h : findE tab fs q e pr = some v) : ∃ e', (7, [q], [e', v]) ∈ pr ∧ eqL tab fs e e' = true := by
  induction pr with
  | nil => rw [findE_def] at h; cases h
  | cons p r ih =>
    have recu : findE tab fs q e r = some v → ∃ e', (7, [q], [e', v]) ∈ p :: r ∧ eqL tab fs e e' = true := fun h => by
      obtain ⟨e', q1, q2⟩ := ih h
      exact ⟨e', List.mem_cons_of_mem _ q1, q2⟩
    obtain ⟨k, l, ns⟩ := p
    rw [findE_def] at h
    try dsimp only at h
    cases hk : Nat.beq k 7 with
    | false => rw [hk] at h; exact recu h
    | true =>
      rw [hk, cond_true] at h
      have ek := Nat.eq_of_beq_eq_true hk
      subst ek
      split at h
      · rename_i q' e' v'
        cases hq : Nat.beq q q' with
        | false => rw [hq] at h; exact recu h
        | true =>
          rw [hq, cond_true] at h
          have eq := Nat.eq_of_beq_eq_true hq
          subst eq
          cases he : eqL tab fs e e' with
          | false => rw [he] at h; exact recu h
          | true =>
            rw [he, cond_true] at h
            cases h
            exact ⟨e', List.mem_cons_self, he⟩
      · exact recu h
theorem stepLd (hFP : FPok PP) {k : KK} {len a b w pc ca cb cca ccb : Nat} (hk : KOk PP scr none ini o nL tb d G G0 rk K Q k) (hg : tbGet tb pc = some (.iaload, len, 3, a, b, w)) (hi : Inv PP scr none G G0 rk K ρ nx tab fs st lv A pr cst clv cσ) {rest : List AV} {r : RV} (hr : prLd tab fs A pr st = some (rest, r)) (h : pushR nx tab fs r (fun nx tab fs v => k (Nat.add pc len) (v :: rest) lv A pr nx tab fs ca cb) = true) (h1 : cca ≤ ca) (h2 : ccb ≤ cb) : Good scr ini o nL tb d Q (pc, cst, clv, cσ, cca, ccb) := by
  have hscr : scr = none := by
    have hsc := (hi.1 ρ agr2.rf).2.2.2.2.2.2.1
    match scr, hsc with
    | none, _ => rfl
  subst hscr
  rw [prLd_def] at hr
  split at hr
  · rename_i e q r'
    split at hr
    · rename_i kk s hA
      cases hk0 : Nat.beq kk 0 with
      | false => rw [hk0] at hr; cases hr
      | true =>
        rw [hk0, cond_true] at hr
        have ek := Nat.eq_of_beq_eq_true hk0
        subst ek
        split at hr
        · rename_i v hv
          split at hr
          · rename_i u0 u hidx
            cases hu : Nat.blt u (sgLen s) with
            | false => rw [hu] at hr; cases hr
            | true =>
              rw [hu, cond_true] at hr
              cases hr
              obtain ⟨e', hm, heq⟩ := findE_ok hv
              obtain ⟨q1, q2, q3, q4, q5, -⟩ := hi.1 ρ agr2.rf
              obtain ⟨v1, c1, e1, hv1, hs1⟩ := rel2_cons q3
              obtain ⟨v2, c2, e2, hv2, hs2⟩ := rel2_cons hs1
              obtain ⟨x, e3, hx⟩ := vI_inv hv1
              have e4 := vR_inv hv2
              subst e1; subst e2; subst e3; subst e4
              obtain ⟨c, hc1, hc2⟩ := rel2_get q5 hA
              obtain ⟨l, e5, hl⟩ := crI_inv (by decide) hc2
              subst e5
              have hlen := srel_len hl
              obtain ⟨p1, p2, p3⟩ := idxR_ok q1 q2 hx hidx
              have p4 := blt_iff.mp hu
              have hin : inB x l.length = true := by
                simp only [inB, Bool.and_eq_true, decide_eq_true_eq]
                exact ⟨p1, by omega⟩
              have hst : stepD none .iaload a b (.int x :: .ref q :: c2) cσ = some (.int (l.getD x.toNatClampNeg 0) :: c2) := by
                show aI 0 (.int x :: .ref q :: c2) cσ = _
                unfold aI
                simp only [hc1]
                rw [if_pos ⟨trivial, hin⟩]
              have all : ∀ ρ', agr2 nx ρ ρ' → rel2 (vrel ρ') c2 rest ∧ rvOk ρ' (.int (l.getD x.toNatClampNeg 0)) (.inl (.inl (false, v))) := fun ρ' ha => by
                obtain ⟨t1, t2, t3, t4, t5, -⟩ := hi.1 ρ' ha
                have hx' : x.toInt = ev ρ' e := by
                  obtain ⟨x', y1, y2⟩ := vI_inv t3.1
                  cases y1
                  exact y2
                refine ⟨t3.2.2, _, rfl, ?_⟩
                have hp := hi.2.1 ρ' ha _ hm
                have hp' : PP 7 [arrI (cσ.getD q (.inl (0, [])))] [ev ρ' e', ev ρ' v] := hp
                have e6 : arrI (cσ.getD q (.inl (0, []))) = l := by
                  rw [List.getD_eq_getElem?_getD, hc1]
                  rfl
                rw [e6] at hp'
                have h7 := hFP.1 l _ _ hp'
                rw [← eqL_ok t1 t2 heq, ← hx'] at h7
                exact h7
              refine Good.step (S' := (pc + len, .int (l.getD x.toNatClampNeg 0) :: c2, clv, cσ, cca, ccb)) (by simp only [nxt, hg, hst, Option.map_some]) ?_
              exact push_go hk (hi.mk' (fun ρ' ha t1 t2 _ t4 t5 => ⟨t1, t2, (all ρ' ha).1, t4, t5⟩) hi.2.1 hi.2.2) (fun ρ' ha => (all ρ' ha).2) h h1 h2
          · cases hr
        · cases hr
    · cases hr
  · cases hr
set_option maxHeartbeats 4000000 in
theorem step_ok (hFP : FPok PP) {env : List Ct} {fin : FN} {k : KK} {e : XE} {pc ca cb cca ccb : Nat} (hF : FinOk PP G G0 Q fin) (hE : ∀ C ∈ env, ValidC PP C ∧ C.2.1 ≤ d) (hsn : scr = none ∨ ∀ pc en, tbGet tb pc = some en → en.1 ≠ .aaload) (hk : KOk PP scr scl ini o nL tb d G G0 rk K Q k) (hg : tbGet tb pc = some e) (hi : Inv PP scr scl G G0 rk K ρ nx tab fs st lv A pr cst clv cσ) (h : step scl ini o nL env fin k e pc st lv A pr nx tab fs ca cb = true) (h1 : cca ≤ ca) (h2 : ccb ≤ cb) : Good scr ini o nL tb d Q (pc, cst, clv, cσ, cca, ccb) := by
  obtain ⟨i, len, g, a, b, w⟩ := e
  unfold step at h
  try dsimp only at h
  split at h
  · unfold st0 at h
    split at h
    · rename_i rest r hr
      exact step0 hk hg hi hr h h1 h2
    · cases h
  · unfold st1 at h
    split at h
    · split at h
      · rename_i x m e hx
        obtain ⟨c1, h⟩ := cand h
        obtain ⟨c2, h⟩ := cand h
        obtain ⟨c3, h⟩ := cand h
        exact stepInc hk hg hi hx (blt_iff.mp c1) (leI_le c2) (leI_le c3) h h1 h2
      · cases h
    · split at h
      · rename_i rest lv' hr
        exact step1 hk hg hi hr h h1 h2
      · cases h
  · exact step2 hk hg hi h h1 h2
  · unfold st3 at h
    split at h
    · rcases hsn with hsn | hsn
      · subst hsn
        exact stepAA hk hg hi h h1 h2
      · exact absurd rfl (hsn _ _ hg)
    · unfold st3l at h
      split at h
      · split at h
        · rename_i rest r hr
          exact stepLd hFP hk hg hi hr h h1 h2
        · unfold st3g at h
          split at h
          · rename_i rest r hr
            exact step3 hk hg hi hr h h1 h2
          · cases h
      · unfold st3g at h
        split at h
        · rename_i rest r hr
          exact step3 hk hg hi hr h h1 h2
        · cases h
    · unfold st3g at h
      split at h
      · rename_i rest r hr
        exact step3 hk hg hi hr h h1 h2
      · cases h
  · unfold st4 at h
    split at h
    · rename_i rest A' pr' hr
      exact step4 hFP hk hg hi hr h h1 h2
    · cases h
  · split at h
    · rename_i rest A' dc ds hr
      obtain ⟨c1, h⟩ := cand h
      exact step5 hk hg hi hr c1 h h1 h2
    · cases h
  · exact step6 hF hg hi h h1 h2
  · exact step7 hE hk hg hi h h1 h2
  · cases h
/-- a point is good: from every state that its pattern has, a good end is reached -/
noncomputable def PGood (PP : Nat → List (List Int32) → List Int → Prop) (scr : Option (List Int32)) (ini : Bool) (o nL : Nat) (tb : List (List (Option XE))) (d : Nat) (G0 : List Int) (Q : Res → Prop) (ok : Option Ln → (Nat → Int) → Prop) (p : PE) : Prop :=
  ∀ (ρ : Nat → Int) (cst qs : List Value) (clv : LV) (cσ : SH) (cca ccb : Nat), PtOk PP ρ p.2.2.1 (cst ++ qs) cσ → p.2.2.2.1.map (ev ρ) = G0 → p.2.1.map (fun k => lvGet clv k) = qs.map some → cst.length + p.2.1.length = p.2.2.1.2.2.2.1.length → lvOk cσ.length clv → ok p.2.2.2.2.1 ρ → cca ≤ p.2.2.2.2.2.1 → ccb ≤ p.2.2.2.2.2.2 → Good scr ini o nL tb d Q (p.1, cst, clv, cσ, cca, ccb)
theorem lvAt_ok {keys : List Nat} {q : List AV} (h : lvAt lv keys = some q) : (∀ ρ', lvR ρ' clv lv → ∃ qs, keys.map (fun k => lvGet clv k) = qs.map some ∧ rel2 (vrel ρ') qs q) := by
  intro ρ' hl
  induction keys generalizing q with
  | nil => cases h; exact ⟨[], rfl, trivial⟩
  | cons k r ih =>
    rw [lvAt_def] at h
    try dsimp only at h
    cases h1 : alGet k lv with
    | none => rw [h1] at h; cases h
    | some a =>
      rw [h1] at h
      cases h2 : lvAt lv r with
      | none => simp only [h2] at h; cases h
      | some q' =>
        simp only [h2] at h
        cases h
        obtain ⟨qs, e1, e2⟩ := ih h2
        obtain ⟨v, v1, v2⟩ := lvR_get hl h1
        exact ⟨v :: qs, by simp only [List.map_cons, v1, e1], v2, e2⟩
theorem chkG_ok {θ : Th} (ht : tOk ρ tab) (hf : fOk ρ fs) {ps as : List Ln} (h : chkG tab fs θ ps as = true) : ps.map (ev (thE ρ θ)) = as.map (ev ρ) := by
  induction ps generalizing as with
  | nil =>
    cases as with
    | nil => rfl
    | cons a r => cases h
  | cons p r ih =>
    cases as with
    | nil => cases h
    | cons a q =>
      rw [chkG_def] at h
      try dsimp only at h
      obtain ⟨h1, h2⟩ := cand h
      rw [List.map_cons, List.map_cons, ih h2, eqLθ ht hf h1]
theorem chkGR_ok {n : Nat} {f : Th} (ht : tOk ρ tab) (hf : fOk ρ fs) {ps as : List Ln} (h : chkGR n tab fs (rigF n f) ps as = true) : ps.map (ev (thE ρ (rigF n f))) = as.map (ev ρ) := by
  rw [chkGR_def] at h
  cases h1 : (bif isSy n 0 ps then isSy n 0 as else false) with
  | false => rw [h1] at h; exact chkG_ok ht hf h
  | true =>
    obtain ⟨h2, h3⟩ := cand h1
    rw [isSy_map n 0 ps (by omega) h2, isSy_len h2 h3]
theorem anyPt_ok {nR : Nat} {pts : List PE} {pc ca cb cca ccb : Nat} (hP : ∀ p ∈ pts, PGood PP scr ini o nL tb d G0 Q (fun r ρ => ∀ r', r = some r' → rk = none ∨ ev ρ r' < K) p) (hi : Inv PP scr scl G G0 rk K ρ nx tab fs st lv A pr cst clv cσ) (h : anyPt nR G rk pc st lv A pr tab fs ca cb pts = true) (h1 : cca ≤ ca) (h2 : ccb ≤ cb) : Good scr ini o nL tb d Q (pc, cst, clv, cσ, cca, ccb) := by
  induction pts with
  | nil => cases h
  | cons p r ih =>
    rw [anyPt_def] at h
    try dsimp only at h
    cases hm : atPt nR G rk pc st lv A pr tab fs ca cb p with
    | false =>
      rw [hm] at h
      exact ih (fun q hq => hP q (List.mem_cons_of_mem _ hq)) h
    | true =>
      rw [atPt_def] at hm
      obtain ⟨c1, c2⟩ := cand hm
      have epc := Nat.eq_of_beq_eq_true c1
      cases hq : lvAt lv p.2.1 with
      | none => rw [hq] at c2; cases c2
      | some q =>
        rw [hq] at c2
        obtain ⟨c3, c4⟩ := cand c2
        obtain ⟨-, c4⟩ := cand c4
        obtain ⟨-, c4⟩ := cand c4
        obtain ⟨-, c4⟩ := cand c4
        obtain ⟨θ, c4⟩ := withR_ok c4
        rw [onePt_def] at c4
        obtain ⟨c5, c6⟩ := cand c4
        obtain ⟨c7, c8⟩ := cand c6
        obtain ⟨c9, c10⟩ := cand c8
        obtain ⟨c11, c12⟩ := cand c10
        obtain ⟨q1, q2, q3, q4, q5, q6, q7, q8⟩ := hi.1 ρ agr2.rf
        obtain ⟨qs, e1, e2⟩ := lvAt_ok hq ρ q4
        rw [epc]
        have hlq : qs.length = p.2.1.length := by
          have := congrArg List.length e1
          rw [List.length_map, List.length_map] at this
          exact this.symm
        refine hP p List.mem_cons_self _ cst qs clv cσ cca ccb (instPR_ok q1 q2 (rel2_app q3 e2) q5 (hi.2.1 ρ agr2.rf) c7) ((chkGR_ok q1 q2 c5).trans q6) e1 (by rw [rel2_len q3]; exact Nat.eq_of_beq_eq_true c3) hi.2.2 (fun r' hr' => ?_) (Nat.le_trans h1 (Nat.le_of_ble_eq_true c11)) (Nat.le_trans h2 (Nat.le_of_ble_eq_true c12))
        rw [rkLt_def] at c9
        rw [hr'] at c9
        try dsimp only at c9
        cases hrk : rk with
        | none => exact Or.inl rfl
        | some r0 =>
          rw [hrk] at c9
          have h3 := le0_ok q1 q2 c9
          rw [ev_plu, ev_sub, ev_sb] at h3
          have h4 := q8 r0 hrk
          refine Or.inr ?_
          show ev (fun s => ev ρ (rigF nR θ s)) r' < K
          omega
/-- a hint is right -/
noncomputable def HFOk (PP : Nat → List (List Int32) → List Int → Prop) (hn : HF) : Prop :=
  ∀ (pc : Nat) (lv : AL) (A : AH) (pr : List PD) (nx : Nat) (tab : Tb) (fs : List Ln) (L : List HR) (ρ : Nat → Int) (clv : LV) (cσ : SH), hn pc lv A pr nx tab fs = some L → (∀ ρ', agr2 nx ρ ρ' → tOk ρ' tab ∧ fOk ρ' fs ∧ lvR ρ' clv lv ∧ rel2 (crel ρ') cσ A) → (∀ ρ', agr2 nx ρ ρ' → prOk PP ρ' cσ pr) → ∃ q ∈ L, ∃ ρ1, nx ≤ q.2.2.1 ∧ agr2 nx ρ ρ1 ∧ (∀ ρ', agr2 q.2.2.1 ρ1 ρ' → tOk ρ' q.2.2.2.1 ∧ fOk ρ' q.2.2.2.2 ∧ rel2 (crel ρ') cσ q.1) ∧ (∀ ρ', agr2 q.2.2.1 ρ1 ρ' → prOk PP ρ' cσ q.2.1)
/-- a macro is right: from the state that it gives the machine's end is the end from here -/
noncomputable def McOk (PP : Nat → List (List Int32) → List Int → Prop) (mc : MC) : Prop :=
  ∀ (ini : Bool) (o nL : Nat) (tb : List (List (Option XE))) (d : Nat) (Q : Res → Prop) (pc : Nat) (st : List AV) (lv : AL) (A : AH) (pr : List PD) (nx : Nat) (tab : Tb) (fs : List Ln) (pc' : Nat) (st' : List AV) (lv' : AL) (A' : AH) (pr' : List PD) (nx' : Nat) (tab' : Tb) (fs' : List Ln) (ρ : Nat → Int) (cst : List Value) (clv : LV) (cσ : SH), mc nL tb pc st lv A pr nx tab fs = some (pc', st', lv', A', pr', nx', tab', fs') → (∀ ρ', agr2 nx ρ ρ' → tOk ρ' tab ∧ fOk ρ' fs ∧ rel2 (vrel ρ') cst st ∧ lvR ρ' clv lv ∧ rel2 (crel ρ') cσ A) → (∀ ρ', agr2 nx ρ ρ' → prOk PP ρ' cσ pr) → lvOk cσ.length clv → ∃ (cst' : List Value) (clv' : LV) (cσ' : SH) (ρ1 : Nat → Int), nx ≤ nx' ∧ agr2 nx ρ ρ1 ∧ (∀ ρ', agr2 nx' ρ1 ρ' → tOk ρ' tab' ∧ fOk ρ' fs' ∧ rel2 (vrel ρ') cst' st' ∧ lvR ρ' clv' lv' ∧ rel2 (crel ρ') cσ' A') ∧ (∀ ρ', agr2 nx' ρ1 ρ' → prOk PP ρ' cσ' pr') ∧ lvOk cσ'.length clv' ∧ ∀ cca ccb, Good none ini o nL tb d Q (pc', cst', clv', cσ', cca, ccb) → Good none ini o nL tb d Q (pc, cst, clv, cσ, cca, ccb)
noncomputable def HintOk (PP : Nat → List (List Int32) → List Int → Prop) (hn : HN) : Prop := HFOk PP hn.1 ∧ McOk PP hn.2.1
theorem noF_ok {PP : Nat → List (List Int32) → List Int → Prop} : HFOk PP noF := fun _ _ _ _ _ _ _ _ _ _ _ h => (by cases h)
theorem noM_ok {PP : Nat → List (List Int32) → List Int → Prop} : McOk PP noM := fun _ _ _ _ _ _ _ _ _ _ _ _ _ _ _ _ _ _ _ _ _ _ _ _ _ _ h => (by cases h)
theorem noH_ok {PP : Nat → List (List Int32) → List Int → Prop} : HintOk PP noH := ⟨noF_ok, noM_ok⟩
theorem macG_some {m : Nat} {scl : Option SL} {mc : MC} {nL : Nat} {tb : List (List (Option XE))} {pc : Nat} {st : List AV} {lv : AL} {A : AH} {pr : List PD} {nx : Nat} {tab : Tb} {fs : List Ln} {r : MR} (h : macG m scl mc nL tb pc st lv A pr nx tab fs = some r) : macAt scl mc nL tb pc st lv A pr nx tab fs = some r := by
  rw [macG_def] at h
  cases hp : isPt m pc with
  | false => rw [hp] at h; cases h
  | true => rw [hp] at h; exact h
theorem hinG_some {m : Nat} {f : HF} {pc : Nat} {lv : AL} {A : AH} {pr : List PD} {nx : Nat} {tab : Tb} {fs : List Ln} {r : List HR} (h : hinG m f pc lv A pr nx tab fs = some r) : f pc lv A pr nx tab fs = some r := by
  rw [hinG_def] at h
  cases hp : isPt m pc with
  | false => rw [hp] at h; cases h
  | true => rw [hp] at h; exact h
theorem hAll_mem {k : AH → List PD → Nat → Tb → List Ln → Bool} {L : List HR} (h : hAll k L = true) : ∀ q ∈ L, k q.1 q.2.1 q.2.2.1 q.2.2.2.1 q.2.2.2.2 = true := by
  induction L with
  | nil => intro q hq; cases hq
  | cons a r ih =>
    obtain ⟨A, pr, nx, tab, fs⟩ := a
    rw [hAll_def] at h
    try dsimp only at h
    obtain ⟨h1, h2⟩ := cand h
    intro q hq
    rcases List.mem_cons.mp hq with rfl | hq
    · exact h1
    · exact ih h2 q hq
theorem go_ok (hFP : FPok PP) {hn : HN} (hH : HintOk PP hn) {env : List Ct} {fin : FN} {pts : List PE} (hF : FinOk PP G G0 Q fin) (hE : ∀ C ∈ env, ValidC PP C ∧ C.2.1 ≤ d) (hsn : scr = none ∨ ∀ pc en, tbGet tb pc = some en → en.1 ≠ .aaload) (hP : ∀ p ∈ pts, PGood PP scr ini o nL tb d G0 Q (fun r ρ => ∀ r', r = some r' → rk = none ∨ ev ρ r' < K) p) : ∀ (n : Nat) (first : Bool), KOk PP scr scl ini o nL tb d G G0 rk K Q (go scl ini o nL tb env pts G rk fin hn n first) := by
  intro n
  induction n with
  | zero => intro first ρ pc st lv A pr nx tab fs ca cb cst clv cσ cca ccb h; cases h
  | succ n ih =>
    intro first ρ pc st lv A pr nx tab fs ca cb cst clv cσ cca ccb h hi h1 h2
    unfold go at h
    cases hp : (bif first then false else isPt hn.2.2.1 pc) with
    | true =>
      rw [hp] at h
      exact anyPt_ok hP hi h h1 h2
    | false =>
      rw [hp] at h
      simp only [cond_false] at h
      split at h
      · rename_i pc' st' lv' A' pr' nx' tab' fs' hM
        have hM := macG_some hM
        unfold macAt at hM
        split at hM
        · have hsc := (hi.1 ρ agr2.rf).2.2.2.2.2.2.1
          have hscr : scr = none := by
            match scr, hsc with
            | none, _ => rfl
          subst hscr
          obtain ⟨cst', clv', cσ', ρ1, m1, m2, m3, m4, m5, m6⟩ := hH.2 ini o nL tb d Q pc st lv A pr nx tab fs pc' st' lv' A' pr' nx' tab' fs' ρ cst clv cσ hM (fun ρ' ha => ⟨(hi.1 ρ' ha).1, (hi.1 ρ' ha).2.1, (hi.1 ρ' ha).2.2.1, (hi.1 ρ' ha).2.2.2.1, (hi.1 ρ' ha).2.2.2.2.1⟩) hi.2.1 hi.2.2
          refine m6 cca ccb (ih false ρ1 _ _ _ _ _ _ _ _ _ _ _ _ _ _ _ h ⟨fun ρ' ha => ?_, m4, m5⟩ h1 h2)
          have ha0 : agr2 nx ρ ρ' := fun i hi' => (ha i (Nat.lt_of_lt_of_le hi' m1)).trans (m2 i hi')
          obtain ⟨w1, w2, w3, w4, w5, w6⟩ := hi.1 ρ' ha0
          obtain ⟨x1, x2, x0, x3, x4⟩ := m3 ρ' ha
          exact ⟨x1, x2, x0, x3, x4, w6⟩
        · cases hM
      · split at h
        · rename_i e he
          split at h
          · exact step_ok hFP hF hE hsn (ih false) he hi h h1 h2
          · rename_i L hL
            obtain ⟨q, hq, ρ1, q1, q2, q3, q4⟩ := hH.1 pc lv A pr nx tab fs L ρ clv cσ (hinG_some hL) (fun ρ' ha => ⟨(hi.1 ρ' ha).1, (hi.1 ρ' ha).2.1, (hi.1 ρ' ha).2.2.2.1, (hi.1 ρ' ha).2.2.2.2.1⟩) hi.2.1
            refine step_ok hFP hF hE hsn (ih false) he (ρ := ρ1) ⟨fun ρ' ha => ?_, q4, hi.2.2⟩ (hAll_mem h q hq) h1 h2
            have ha0 : agr2 nx ρ ρ' := fun i hi' => (ha i (by omega)).trans (q2 i hi')
            obtain ⟨w1, w2, w3, w4, w5, w6⟩ := hi.1 ρ' ha0
            obtain ⟨x1, x2, x3⟩ := q3 ρ' ha
            exact ⟨x1, x2, w3, w4, x3, w6⟩
        · cases h
-- how a point is begun
noncomputable def zipL : List Nat → List AV → AL
  | k :: r, a :: q => (k, a) :: zipL r q
  | _, _ => []
/-- the script's length is the first of the numbers that are carried along -/
noncomputable def sclG (law : Bool) (G : List Ln) : Option SL := bif law then (match G with
  | L :: B :: W => some (L, B, W)
  | _ => none) else none
noncomputable def scG (law : Bool) (scr : Option (List Int32)) (G0 : List Int) : Prop := match scr with
  | none => law = false
  | some xs => law = true ∧ xs.length < 2 ^ 31 ∧ ∃ (b : Int) (w : List Int), G0 = (xs.length : Int) :: b :: w ∧ ∀ (c : Nat) (v : Int), w[c]? = some v → ∀ k : Nat, (k : Int) = b + c → k < xs.length → (xs.getD k 0).toInt = v
theorem scG_ok {law : Bool} (h : scG law scr G0) (hg : G.map (ev ρ) = G0) : scOk ρ scr (sclG law G) := by
  unfold scG at h
  match scr, h with
  | none, h => rw [h]; exact trivial
  | some xs, ⟨h1, h2, b, w, h3, h4⟩ =>
    rw [h1]
    rw [h3] at hg
    match G, hg with
    | [], hg => exact absurd (congrArg List.length hg) (by simp only [List.map_nil, List.length_cons, List.length_nil]; omega)
    | [_], hg => exact absurd (congrArg List.length hg) (by simp only [List.map_cons, List.map_nil, List.length_cons, List.length_nil]; omega)
    | L :: B :: W, hg =>
      simp only [List.map_cons, List.cons.injEq] at hg
      refine ⟨hg.1.symm, h2, fun c v hv k hk hlt => ?_⟩
      rw [hg.2.1] at hk
      exact h4 c (ev ρ v) (by rw [← hg.2.2, List.getElem?_map, hv]; rfl) k hk hlt
noncomputable def scE (p : PE) : Bool := bif scP p.2.2.1 then (bif p.2.2.2.1.all (scL p.2.2.1.1) then (match p.2.2.2.2.1 with
  | none => true
  | some r => scL p.2.2.1.1 r) else false) else false
noncomputable def runPt (law ini : Bool) (o nL : Nat) (tb : List (List (Option XE))) (env : List Ct) (pts : List PE) (fin : List Ln → FN) (hn : HN) (fuel : Nat) (p : PE) : Bool :=
  bif Nat.ble p.2.1.length p.2.2.1.2.2.2.1.length then (bif scE p then
    go (sclG law p.2.2.2.1) ini o nL tb env pts p.2.2.2.1 p.2.2.2.2.1 (fin p.2.2.2.1) hn fuel true p.1 (p.2.2.1.2.2.2.1.take (Nat.sub p.2.2.1.2.2.2.1.length p.2.1.length)) (zipL p.2.1 (p.2.2.1.2.2.2.1.drop (Nat.sub p.2.2.1.2.2.2.1.length p.2.1.length))) p.2.2.1.2.2.2.2.1 p.2.2.1.2.2.2.2.2 p.2.2.1.1 (tbOf p.2.2.1.2.1) p.2.2.1.2.2.1 p.2.2.2.2.2.1 p.2.2.2.2.2.2 else false) else false
noncomputable def rkNn (p : PE) : Bool := match p.2.2.2.2.1 with
  | none => false
  | some r => le0 (tbOf p.2.2.1.2.1) p.2.2.1.2.2.1 (sclL (.negSucc 0) r)
theorem lvR_zip {ρ' : Nat → Int} {keys : List Nat} : ∀ {qs : List Value} {q : List AV}, keys.map (fun k => lvGet clv k) = qs.map some → rel2 (vrel ρ') qs q → lvR ρ' clv (zipL keys q) := by
  induction keys with
  | nil => intro qs q _ _ p hp; cases hp
  | cons k r ih =>
    intro qs q h1 h2
    cases q with
    | nil => intro p hp; cases hp
    | cons a q =>
      obtain ⟨v, qs', e, h3, h4⟩ := rel2_cons h2
      subst e
      simp only [List.map_cons, List.cons.injEq] at h1
      intro p hp
      rcases List.mem_cons.mp hp with rfl | hp
      · exact ⟨v, h1.1, h3⟩
      · exact ih h1.2 h4 p hp
theorem map_agr {n : Nat} {ρ ρ' : Nat → Int} (ha : agr2 n ρ ρ') {l : List Ln} (h : l.all (scL n) = true) : l.map (ev ρ') = l.map (ev ρ) := List.map_congr_left fun e he => scL_ev ha (List.all_eq_true.mp h e he)
theorem runPt_ok (hFP : FPok PP) {hn : HN} (hH : HintOk PP hn) {law : Bool} {env : List Ct} {fin : List Ln → FN} {pts : List PE} {fuel : Nat} {p : PE} (hS : scG law scr G0) (hF : ∀ G, FinOk PP G G0 Q (fin G)) (hE : ∀ C ∈ env, ValidC PP C ∧ C.2.1 ≤ d) (hsn : scr = none ∨ ∀ pc en, tbGet tb pc = some en → en.1 ≠ .aaload) {K : Int} (hP : ∀ q ∈ pts, PGood PP scr ini o nL tb d G0 Q (fun r ρ => ∀ r', r = some r' → p.2.2.2.2.1 = none ∨ ev ρ r' < K) q) (h : runPt law ini o nL tb env pts fin hn fuel p = true) : PGood PP scr ini o nL tb d G0 Q (fun r ρ => ∀ r', r = some r' → ev ρ r' = K) p := by
  obtain ⟨c1, h⟩ := cand h
  obtain ⟨c2, h⟩ := cand h
  intro ρ cst qs clv cσ cca ccb hpt hG hqs hlen hlv hrk h1 h2
  obtain ⟨c3, c4⟩ := cand c2
  obtain ⟨c5, c6⟩ := cand c4
  have hle := Nat.le_of_ble_eq_true c1
  have hsub : Nat.sub p.2.2.1.2.2.2.1.length p.2.1.length = cst.length := by
    show p.2.2.1.2.2.2.1.length - p.2.1.length = _
    omega
  rw [hsub] at h
  refine go_ok hFP hH (rk := p.2.2.2.2.1) (K := K) (hF p.2.2.2.1) hE hsn hP fuel true ρ _ _ _ _ _ _ _ _ _ _ cst clv cσ cca ccb h ⟨fun ρ' ha => ?_, fun ρ' ha => (PtOk_agr c3 ha hpt).2.2.2.2, hlv⟩ h1 h2
  have hpt' := PtOk_agr c3 ha hpt
  have hG' : p.2.2.2.1.map (ev ρ') = G0 := (map_agr ha c5).trans hG
  have hv := hpt'.2.2.1
  have hst := rel2_take hv cst.length
  rw [List.take_left] at hst
  have hlo := rel2_drop hv cst.length
  rw [List.drop_left] at hlo
  refine ⟨tbOf_ok hpt'.1, hpt'.2.1, hst, lvR_zip hqs hlo, hpt'.2.2.2.1, hG', scG_ok hS hG', fun r hr => ?_⟩
  have e : ev ρ' r = ev ρ r := by
    rw [hr] at c6
    exact scL_ev ha c6
  rw [e]
  exact hrk r hr
/-- some of the points -/
noncomputable def pkP (L : List PE) (I : List Nat) : List PE := List.rec (motive := fun _ => List PE) [] (fun i _ ih => Option.rec (motive := fun _ => List PE) ih (fun p => p :: ih) (nthQ L i)) I
theorem pkP_mem {L : List PE} {I : List Nat} : ∀ q ∈ pkP L I, q ∈ L := by
  induction I with
  | nil => intro q hq; cases hq
  | cons i I ih =>
    intro q hq
    have h1 : q ∈ (Option.rec (motive := fun _ => List PE) (pkP L I) (fun p => p :: pkP L I) (nthQ L i) : List PE) := hq
    cases h2 : nthQ L i with
    | none => rw [h2] at h1; exact ih q h1
    | some p =>
      rw [h2] at h1
      rcases List.mem_cons.mp h1 with h3 | h3
      · rw [h3]
        rw [nthQ_eq] at h2
        exact List.mem_of_getElem? h2
      · exact ih q h3
/-- all points are good: the rank falls from one to the next -/
theorem pts_ok (hFP : FPok PP) {hn : HN} (hH : HintOk PP hn) {law : Bool} {env : List Ct} {fin : List Ln → FN} {pts ext : List PE} {fuel : Nat} (hS : scG law scr G0) (hF : ∀ G, FinOk PP G G0 Q (fin G)) (hE : ∀ C ∈ env, ValidC PP C ∧ C.2.1 ≤ d) (hsn : scr = none ∨ ∀ pc en, tbGet tb pc = some en → en.1 ≠ .aaload) (hX : ∀ p ∈ ext, PGood PP scr ini o nL tb d G0 Q (fun _ _ => True) p) (h : ∀ p ∈ pts, rkNn p = true ∧ ∃ ps, (∀ q ∈ ps, q ∈ pts ++ ext) ∧ runPt law ini o nL tb env ps fin hn fuel p = true) : ∀ p ∈ pts ++ ext, PGood PP scr ini o nL tb d G0 Q (fun _ _ => True) p := by
  have key : ∀ N : Nat, ∀ p ∈ pts, PGood PP scr ini o nL tb d G0 Q (fun r ρ => ∀ r', r = some r' → ev ρ r' < N) p := by
    intro N
    induction N with
    | zero =>
      intro p hp ρ cst qs clv cσ cca ccb hpt hG hqs hlen hlv hrk h1 h2
      have hn := (h p hp).1
      unfold rkNn at hn
      split at hn
      · cases hn
      · rename_i r hr
        have := le0_ok (tbOf_ok hpt.1) hpt.2.1 hn
        rw [ev_scl] at this
        have e : (Int.negSucc 0) * ev ρ r = - ev ρ r := by show (-1) * _ = _; omega
        have := hrk r hr
        omega
    | succ N ih =>
      intro p hp ρ cst qs clv cσ cca ccb hpt hG hqs hlen hlv hrk h1 h2
      cases hr : p.2.2.2.2.1 with
      | none =>
        have hn := (h p hp).1
        unfold rkNn at hn
        rw [hr] at hn
        cases hn
      | some r =>
        obtain ⟨-, ps, hps, hrun⟩ := h p hp
        refine runPt_ok hFP hH (K := ev ρ r) hS hF hE hsn (fun q hq => ?_) hrun ρ cst qs clv cσ cca ccb hpt hG hqs hlen hlv (fun r' hr' => ?_) h1 h2
        · rcases List.mem_append.mp (hps q hq) with hq | hq
          · intro ρ1 cst1 qs1 clv1 cσ1 cca1 ccb1 a1 a2 a3 a4 a5 a6 a7 a8
            refine ih q hq ρ1 cst1 qs1 clv1 cσ1 cca1 ccb1 a1 a2 a3 a4 a5 (fun r' hr' => ?_) a7 a8
            have h3 := hrk r hr
            rcases a6 r' hr' with h4 | h4
            · rw [hr] at h4; cases h4
            · omega
          · intro ρ1 cst1 qs1 clv1 cσ1 cca1 ccb1 a1 a2 a3 a4 a5 a6 a7 a8
            exact hX q hq ρ1 cst1 qs1 clv1 cσ1 cca1 ccb1 a1 a2 a3 a4 a5 trivial a7 a8
        · rw [hr] at hr'
          cases hr'
          rfl
  intro p hp
  rcases List.mem_append.mp hp with hp | hp
  · intro ρ cst qs clv cσ cca ccb a1 a2 a3 a4 a5 a6 a7 a8
    cases hr : p.2.2.2.2.1 with
    | none =>
      have hn := (h p hp).1
      unfold rkNn at hn
      rw [hr] at hn
      cases hn
    | some r =>
      refine key ((ev ρ r).toNat + 1) p hp ρ cst qs clv cσ cca ccb a1 a2 a3 a4 a5 (fun r' hr' => ?_) a7 a8
      rw [hr] at hr'
      cases hr'
      omega
  · exact hX p hp
end VAL
