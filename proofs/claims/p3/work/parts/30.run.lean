/-! ===== the runner tells the truth ===== -/
section RUN
variable {PP : Nat → List (List Int32) → List Int → Prop} {scr : Option (List Int32)} {scl : Option SL} {ini : Bool} {o nL : Nat} {tb : List (List (Option XE))} {d : Nat} {G : List Ln} {G0 : List Int} {rk : Option Ln} {K : Int} {Q : Res → Prop}
noncomputable def Inv (PP : Nat → List (List Int32) → List Int → Prop) (scr : Option (List Int32)) (scl : Option SL) (G : List Ln) (G0 : List Int) (rk : Option Ln) (K : Int) (ρ : Nat → Int) (nx : Nat) (tab : Tb) (fs : List Ln) (st : List AV) (lv : AL) (A : AH) (pr : List PD) (cst : List Value) (clv : LV) (cσ : SH) : Prop :=
  (∀ ρ', agr2 nx ρ ρ' → tOk ρ' tab ∧ fOk ρ' fs ∧ rel2 (vrel ρ') cst st ∧ lvR ρ' clv lv ∧ rel2 (crel ρ') cσ A ∧ G.map (ev ρ') = G0 ∧ scOk ρ' scr scl ∧ ∀ r, rk = some r → ev ρ' r = K) ∧ (∀ ρ', agr2 nx ρ ρ' → prOk PP ρ' cσ pr) ∧ lvOk cσ.length clv
noncomputable def Good (scr : Option (List Int32)) (ini : Bool) (o nL : Nat) (tb : List (List (Option XE))) (d : Nat) (Q : Res → Prop) (S : XS) : Prop := ∃ R, Ex scr ini o nL tb d S R ∧ Q R
noncomputable def KOk (PP : Nat → List (List Int32) → List Int → Prop) (scr : Option (List Int32)) (scl : Option SL) (ini : Bool) (o nL : Nat) (tb : List (List (Option XE))) (d : Nat) (G : List Ln) (G0 : List Int) (rk : Option Ln) (K : Int) (Q : Res → Prop) (k : KK) : Prop :=
  ∀ (ρ : Nat → Int) (pc : Nat) (st : List AV) (lv : AL) (A : AH) (pr : List PD) (nx : Nat) (tab : Tb) (fs : List Ln) (ca cb : Nat) (cst : List Value) (clv : LV) (cσ : SH) (cca ccb : Nat), k pc st lv A pr nx tab fs ca cb = true → Inv PP scr scl G G0 rk K ρ nx tab fs st lv A pr cst clv cσ → cca ≤ ca → ccb ≤ cb → Good scr ini o nL tb d Q (pc, cst, clv, cσ, cca, ccb)
theorem agr2.rf {n : Nat} {ρ : Nat → Int} : agr2 n ρ ρ := fun _ _ => rfl
theorem Good.step {S' : XS} {pc cca ccb : Nat} {cst : List Value} {clv : LV} {cσ : SH} (h : nxt scr ini o nL tb pc cst clv cσ cca ccb = some S') (hg : Good scr ini o nL tb d Q S') : Good scr ini o nL tb d Q (pc, cst, clv, cσ, cca, ccb) := by
  obtain ⟨R, h1, h2⟩ := hg
  exact ⟨R, Ex.step h h1, h2⟩
variable {ρ : Nat → Int} {nx : Nat} {tab : Tb} {fs : List Ln} {st rest : List AV} {lv : AL} {A : AH} {pr : List PD} {cst cr : List Value} {clv : LV} {cσ : SH}
theorem Inv.mk' {pr' : List PD} {tab' : Tb} {fs' : List Ln} {rest : List AV} {lv' : AL} {A' : AH} {clv' : LV} {cσ' : SH} (hi : Inv PP scr scl G G0 rk K ρ nx tab fs st lv A pr cst clv cσ) (h : ∀ ρ', agr2 nx ρ ρ' → tOk ρ' tab → fOk ρ' fs → rel2 (vrel ρ') cst st → lvR ρ' clv lv → rel2 (crel ρ') cσ A → tOk ρ' tab' ∧ fOk ρ' fs' ∧ rel2 (vrel ρ') cr rest ∧ lvR ρ' clv' lv' ∧ rel2 (crel ρ') cσ' A') (hp : ∀ ρ', agr2 nx ρ ρ' → prOk PP ρ' cσ' pr') (hl : lvOk cσ'.length clv') : Inv PP scr scl G G0 rk K ρ nx tab' fs' rest lv' A' pr' cr clv' cσ' := by
  refine ⟨fun ρ' ha => ?_, hp, hl⟩
  obtain ⟨h1, h2, h3, h4, h5, h6, h7, h8⟩ := hi.1 ρ' ha
  obtain ⟨q1, q2, q3, q4, q5⟩ := h ρ' ha h1 h2 h3 h4 h5
  exact ⟨q1, q2, q3, q4, q5, h6, h7, h8⟩
theorem ev_upd {ρ : Nat → Int} {nx : Nat} {z : Int} : agr2 nx ρ (fun j => if j = nx then z else ρ j) := fun i hi => by
  show (if i = nx then z else ρ i) = ρ i
  rw [if_neg (by omega)]
/-- a value more on the stack, perhaps with a symbol of its own -/
theorem pushR_ok {v : Value} {r : RV} {k : Nat → Tb → List Ln → AV → Bool} (hi : Inv PP scr scl G G0 rk K ρ nx tab fs st lv A pr cst clv cσ) (hv : ∀ ρ', agr2 nx ρ ρ' → rvOk ρ' v r) (h : pushR nx tab fs r k = true) : ∃ ρ1 nx1 tab1 fs1 a1, Inv PP scr scl G G0 rk K ρ1 nx1 tab1 fs1 st lv A pr cst clv cσ ∧ (∀ ρ', agr2 nx1 ρ1 ρ' → vrel ρ' v a1) ∧ k nx1 tab1 fs1 a1 = true := by
  rw [pushR_def] at h
  match r, hv, h with
  | .inl a, hv, h => exact ⟨ρ, nx, tab, fs, a, hi, fun ρ' ha => hv ρ' ha, h⟩
  | .inr (lg, .inl e), hv, h =>
    refine ⟨ρ, nx, tab, fs, .inl (lg, e), hi, fun ρ' ha => ?_, h⟩
    have h1 := hv ρ' ha
    cases lg with
    | false => exact h1
    | true => exact h1
  | .inr (lg, .inr (lo, hi', f)), hv, h =>
    -- the number behind the value
    have hz : ∃ z : Int, (∀ ρ', agr2 nx ρ ρ' → orOk ρ' z (.inr (lo, hi', f))) ∧ ∀ (ρ' : Nat → Int) (e : Ln), ev ρ' e = z → vrel ρ' v (.inl (lg, e)) := by
      have h0 := hv ρ agr2.rf
      cases lg with
      | false =>
        obtain ⟨x, e1, e2⟩ := h0
        refine ⟨x.toInt, fun ρ' ha => ?_, fun ρ' e he => ⟨x, e1, he.symm⟩⟩
        obtain ⟨x', e1', e2'⟩ := hv ρ' ha
        rw [e1] at e1'
        cases e1'
        exact e2'
      | true =>
        obtain ⟨x, e1, e2⟩ := h0
        refine ⟨x.toInt, fun ρ' ha => ?_, fun ρ' e he => ⟨x, e1, he.symm⟩⟩
        obtain ⟨x', e1', e2'⟩ := hv ρ' ha
        rw [e1] at e1'
        cases e1'
        exact e2'
    obtain ⟨z, z1, z2⟩ := hz
    try dsimp only at h
    cases hc : eqI lo hi' with
    | true =>
      rw [hc] at h
      refine ⟨ρ, nx, tab, fs, .inl (lg, kL lo), hi, fun ρ' ha => z2 ρ' _ ?_, h⟩
      have h1 := (z1 ρ' ha).1
      have h2 := eqI_eq hc
      rw [ev_k]
      omega
    | false =>
      rw [hc] at h
      refine ⟨fun j => if j = nx then z else ρ j, Nat.succ nx, _, _, _, ?_, fun ρ' ha => z2 ρ' _ ?_, h⟩
      · refine ⟨fun ρ' ha => ?_, fun ρ' ha => hi.2.1 ρ' (fun i hi => (ha i (Nat.lt_succ_of_lt hi)).trans (ev_upd i hi)), hi.2.2⟩
        have ha' : agr2 nx ρ ρ' := fun i hi => (ha i (Nat.lt_succ_of_lt hi)).trans (ev_upd i hi)
        have hn : ρ' nx = z := (ha nx (Nat.lt_succ_self nx)).trans (if_pos rfl)
        obtain ⟨h1, h2, h3⟩ := hi.1 ρ' ha'
        have hz := z1 ρ' ha'
        refine ⟨tOk_cons h1 (by rw [hn]; exact hz.1.1) (by rw [hn]; exact hz.1.2), ?_, h3⟩
        cases f with
        | none => exact h2
        | some e =>
          refine fOk_cons h2 ?_
          rw [ev_sub, ev_s, hn]
          have := hz.2 e rfl
          omega
      · rw [ev_s]
        exact (ha nx (Nat.lt_succ_self nx)).trans (if_pos rfl)
theorem push_go {k : KK} {v : Value} {r : RV} {pc ca cb cca ccb : Nat} (hk : KOk PP scr scl ini o nL tb d G G0 rk K Q k) (hi : Inv PP scr scl G G0 rk K ρ nx tab fs st lv A pr cst clv cσ) (hv : ∀ ρ', agr2 nx ρ ρ' → rvOk ρ' v r) (h : pushR nx tab fs r (fun nx tab fs v => k pc (v :: st) lv A pr nx tab fs ca cb) = true) (h1 : cca ≤ ca) (h2 : ccb ≤ cb) : Good scr ini o nL tb d Q (pc, v :: cst, clv, cσ, cca, ccb) := by
  obtain ⟨ρ1, nx1, tab1, fs1, a1, hi1, hv1, hk1⟩ := pushR_ok hi hv h
  refine hk ρ1 pc (a1 :: st) lv A pr nx1 tab1 fs1 ca cb _ _ _ cca ccb hk1 ⟨fun ρ' ha => ?_, hi1.2.1, hi1.2.2⟩ h1 h2
  obtain ⟨q1, q2, q3, q4⟩ := hi1.1 ρ' ha
  exact ⟨q1, q2, ⟨hv1 ρ' ha, q3⟩, q4⟩
theorem step0 {k : KK} {i : Instr} {len a b w pc ca cb cca ccb : Nat} (hk : KOk PP scr scl ini o nL tb d G G0 rk K Q k) (hg : tbGet tb pc = some (i, len, 0, a, b, w)) (hi : Inv PP scr scl G G0 rk K ρ nx tab fs st lv A pr cst clv cσ) {rest : List AV} {r : RV} (hr : g0 i a tab fs lv st = some (rest, r)) (h : pushR nx tab fs r (fun nx tab fs v => k (Nat.add pc len) (v :: rest) lv A pr nx tab fs ca cb) = true) (h1 : cca ≤ ca) (h2 : ccb ≤ cb) : Good scr ini o nL tb d Q (pc, cst, clv, cσ, cca, ccb) := by
  obtain ⟨q1, q2, q3, q4, -⟩ := hi.1 ρ agr2.rf
  obtain ⟨v, cr, hst, -, -⟩ := g0_ok q1 q2 q3 q4 hr
  have all : ∀ ρ', agr2 nx ρ ρ' → rel2 (vrel ρ') cr rest ∧ rvOk ρ' v r := fun ρ' ha => by
    obtain ⟨p1, p2, p3, p4, -⟩ := hi.1 ρ' ha
    obtain ⟨v', cr', hst', e1, e2⟩ := g0_ok p1 p2 p3 p4 hr
    rw [hst] at hst'
    cases hst'
    exact ⟨e1, e2⟩
  refine Good.step (S' := (pc + len, v :: cr, clv, cσ, cca, ccb)) (by simp only [nxt, hg, hst, Option.map_some]) ?_
  exact push_go hk (hi.mk' (fun ρ' ha t1 t2 _ t4 t5 => ⟨t1, t2, (all ρ' ha).1, t4, t5⟩) hi.2.1 hi.2.2) (fun ρ' ha => (all ρ' ha).2) h h1 h2
theorem step3 {k : KK} {i : Instr} {len a b w pc ca cb cca ccb : Nat} (hk : KOk PP scr scl ini o nL tb d G G0 rk K Q k) (hg : tbGet tb pc = some (i, len, 3, a, b, w)) (hi : Inv PP scr scl G G0 rk K ρ nx tab fs st lv A pr cst clv cσ) {rest : List AV} {r : RV} (hr : g3 scl i a b tab fs A st = some (rest, r)) (h : pushR nx tab fs r (fun nx tab fs v => k (Nat.add pc len) (v :: rest) lv A pr nx tab fs ca cb) = true) (h1 : cca ≤ ca) (h2 : ccb ≤ cb) : Good scr ini o nL tb d Q (pc, cst, clv, cσ, cca, ccb) := by
  obtain ⟨q1, q2, q3, q4, q5, q6, q7, -⟩ := hi.1 ρ agr2.rf
  obtain ⟨v, cr, hst, -, -⟩ := g3_ok q1 q2 q3 q5 q7 hr
  have all : ∀ ρ', agr2 nx ρ ρ' → rel2 (vrel ρ') cr rest ∧ rvOk ρ' v r := fun ρ' ha => by
    obtain ⟨p1, p2, p3, p4, p5, p6, p7, -⟩ := hi.1 ρ' ha
    obtain ⟨v', cr', hst', e1, e2⟩ := g3_ok p1 p2 p3 p5 p7 hr
    rw [hst] at hst'
    cases hst'
    exact ⟨e1, e2⟩
  refine Good.step (S' := (pc + len, v :: cr, clv, cσ, cca, ccb)) (by simp only [nxt, hg, hst, Option.map_some]) ?_
  exact push_go hk (hi.mk' (fun ρ' ha t1 t2 _ t4 t5 => ⟨t1, t2, (all ρ' ha).1, t4, t5⟩) hi.2.1 hi.2.2) (fun ρ' ha => (all ρ' ha).2) h h1 h2
theorem step1 {k : KK} {i : Instr} {len a b w pc ca cb cca ccb : Nat} (hk : KOk PP scr scl ini o nL tb d G G0 rk K Q k) (hg : tbGet tb pc = some (i, len, 1, a, b, w)) (hi : Inv PP scr scl G G0 rk K ρ nx tab fs st lv A pr cst clv cσ) {rest : List AV} {lv' : AL} (hr : g1 i nL A.length st lv = some (rest, lv')) (h : k (Nat.add pc len) rest lv' A pr nx tab fs ca cb = true) (h1 : cca ≤ ca) (h2 : ccb ≤ cb) : Good scr ini o nL tb d Q (pc, cst, clv, cσ, cca, ccb) := by
  obtain ⟨q1, q2, q3, q4, q5, -⟩ := hi.1 ρ agr2.rf
  have hlen := rel2_len q5
  have hlv := hi.2.2
  rw [hlen] at hlv
  obtain ⟨cr, clv', hst, -, -, hlv'⟩ := g1_ok q3 q4 hlv hr
  have all : ∀ ρ', agr2 nx ρ ρ' → rel2 (vrel ρ') cr rest ∧ lvR ρ' clv' lv' := fun ρ' ha => by
    obtain ⟨p1, p2, p3, p4, -⟩ := hi.1 ρ' ha
    obtain ⟨cr', clv2, hst', e1, e2, -⟩ := g1_ok p3 p4 hlv hr
    rw [hst] at hst'
    cases hst'
    exact ⟨e1, e2⟩
  refine Good.step (S' := (pc + len, cr, clv', cσ, cca, ccb)) (by simp only [nxt, hg, hst, Option.map_some]) ?_
  exact hk ρ _ _ _ _ _ _ _ _ _ _ _ _ _ _ _ h (hi.mk' (fun ρ' ha t1 t2 _ _ t5 => ⟨t1, t2, (all ρ' ha).1, (all ρ' ha).2, t5⟩) hi.2.1 (by rw [hlen]; exact hlv')) h1 h2
theorem stepInc {k : KK} {x : Nat} {m : Int} {len a b w pc ca cb cca ccb : Nat} {e : Ln} (hk : KOk PP scr scl ini o nL tb d G G0 rk K Q k) (hg : tbGet tb pc = some (.iinc x m, len, 1, a, b, w)) (hi : Inv PP scr scl G G0 rk K ρ nx tab fs st lv A pr cst clv cσ) (hx : alGet x lv = some (.inl (false, e))) (hn : x < nL) (hm1 : lo32 ≤ m) (hm2 : m ≤ hi32) (h : pushR nx tab fs (.inr (false, fitIF tab fs (pluL e m))) (fun nx tab fs v => k (Nat.add pc len) st ((x, v) :: alDel false x lv) A pr nx tab fs ca cb) = true) (h1 : cca ≤ ca) (h2 : ccb ≤ cb) : Good scr ini o nL tb d Q (pc, cst, clv, cσ, cca, ccb) := by
  obtain ⟨q1, q2, q3, q4, q5, -⟩ := hi.1 ρ agr2.rf
  obtain ⟨v0, hv0, hr0⟩ := lvR_get q4 hx
  obtain ⟨y, e1, hy⟩ := vI_inv hr0
  subst e1
  have all : ∀ ρ', agr2 nx ρ ρ' → rvOk ρ' (.int (y + Int32.ofInt m)) (.inr (false, fitIF tab fs (pluL e m))) := fun ρ' ha => by
    obtain ⟨p1, p2, p3, p4, -⟩ := hi.1 ρ' ha
    obtain ⟨v1, hv1, hr1⟩ := lvR_get p4 hx
    rw [hv0] at hv1
    cases hv1
    obtain ⟨y', e1, hy'⟩ := vI_inv hr1
    cases e1
    refine ⟨_, rfl, fitIF_ok p1 p2 ?_⟩
    rw [Int32.toInt_add, k32 hm1 hm2, ev_plu, hy']
  obtain ⟨ρ1, nx1, tab1, fs1, a1, hi1, hv1, hk1⟩ := pushR_ok hi all h
  have hstep : stepB (.iinc x m) nL cst clv = some (cst, lvSet1 clv x (.int (y + Int32.ofInt m))) := by
    simp only [stepB, hv0]
    rw [if_pos hn]
  refine Good.step (S' := (pc + len, cst, lvSet1 clv x (.int (y + Int32.ofInt m)), cσ, cca, ccb)) (by simp only [nxt, hg, hstep, Option.map_some]) ?_
  exact hk ρ1 _ _ _ _ _ _ _ _ _ _ _ _ _ _ _ hk1 (hi1.mk' (fun ρ' ha t1 t2 t3 t4 t5 => ⟨t1, t2, t3, lvR_set1 t4 (hv1 ρ' ha), t5⟩) hi1.2.1 (lvOk_set1 hi1.2.2 rfl)) h1 h2
theorem step4 (hFP : FPok PP) {k : KK} {i : Instr} {len a b w pc ca cb cca ccb : Nat} (hk : KOk PP scr scl ini o nL tb d G G0 rk K Q k) (hg : tbGet tb pc = some (i, len, 4, a, b, w)) (hi : Inv PP scr scl G G0 rk K ρ nx tab fs st lv A pr cst clv cσ) {rest : List AV} {A' : AH} {pr' : List PD} (hr : g4 ini o i a b tab fs A pr st = some (rest, A', pr')) (h : k (Nat.add pc len) rest lv A' pr' nx tab fs ca cb = true) (h1 : cca ≤ ca) (h2 : ccb ≤ cb) : Good scr ini o nL tb d Q (pc, cst, clv, cσ, cca, ccb) := by
  obtain ⟨q1, q2, q3, q4, q5, -⟩ := hi.1 ρ agr2.rf
  obtain ⟨cr, σ', hst, s1, s2, hp, hlen⟩ := g4_ok (PP := PP) hFP q1 q2 q3 q5 hr
  have all : ∀ ρ', agr2 nx ρ ρ' → rel2 (vrel ρ') cr rest ∧ rel2 (crel ρ') σ' A' ∧ (prOk PP ρ' cσ pr → prOk PP ρ' σ' pr') := fun ρ' ha => by
    obtain ⟨p1, p2, p3, p4, p5, -⟩ := hi.1 ρ' ha
    obtain ⟨cr', σ2, hst', e1, e2, e3, -⟩ := g4_ok (PP := PP) hFP p1 p2 p3 p5 hr
    rw [hst] at hst'
    cases hst'
    exact ⟨e1, e2, e3⟩
  refine Good.step (S' := (pc + len, cr, clv, σ', cca, ccb)) (by simp only [nxt, hg, hst, Option.map_some]) ?_
  exact hk ρ _ _ _ _ _ _ _ _ _ _ _ _ _ _ _ h (hi.mk' (fun ρ' ha t1 t2 _ t4 _ => ⟨t1, t2, (all ρ' ha).1, t4, (all ρ' ha).2.1⟩) (fun ρ' ha => (all ρ' ha).2.2 (hi.2.1 ρ' ha)) (by rw [hlen]; exact hi.2.2)) h1 h2
theorem step5 {k : KK} {i : Instr} {len a b w pc ca cb cca ccb dc ds : Nat} (hk : KOk PP scr scl ini o nL tb d G G0 rk K Q k) (hg : tbGet tb pc = some (i, len, 5, a, b, w)) (hi : Inv PP scr scl G G0 rk K ρ nx tab fs st lv A pr cst clv cσ) {rest : List AV} {A' : AH} (hr : g5 i a tab fs A st = some (rest, A', dc, ds)) (hb : prB A.length pr = true) (h : k (Nat.add pc len) rest lv A' pr nx tab fs (Nat.add ca dc) (Nat.add cb ds) = true) (h1 : cca ≤ ca) (h2 : ccb ≤ cb) : Good scr ini o nL tb d Q (pc, cst, clv, cσ, cca, ccb) := by
  obtain ⟨q1, q2, q3, q4, q5, -⟩ := hi.1 ρ agr2.rf
  obtain ⟨cr, τ, hst, s1, s2⟩ := g5_ok q1 q2 q3 q5 hi.2.2 hr
  have all : ∀ ρ', agr2 nx ρ ρ' → rel2 (vrel ρ') cr rest ∧ rel2 (crel ρ') (cσ ++ τ) A' := fun ρ' ha => by
    obtain ⟨p1, p2, p3, p4, p5, -⟩ := hi.1 ρ' ha
    obtain ⟨cr', τ', hst', e1, e2⟩ := g5_ok p1 p2 p3 p5 hi.2.2 hr
    rw [hst] at hst'
    have e3 : cr = cr' ∧ cσ ++ τ = cσ ++ τ' := by
      simp only [Option.some.injEq, Prod.mk.injEq] at hst'
      exact ⟨hst'.1, hst'.2.1⟩
    rw [e3.1, e3.2]
    exact ⟨e1, e2⟩
  refine Good.step (S' := (pc + len, cr, clv, cσ ++ τ, cca + dc, ccb + ds)) (by simp only [nxt, hg, hst, Option.map_some]) ?_
  refine hk ρ _ _ _ _ _ _ _ _ _ _ _ _ _ _ _ h (hi.mk' (fun ρ' ha t1 t2 _ t4 _ => ⟨t1, t2, (all ρ' ha).1, t4, (all ρ' ha).2⟩) (fun ρ' ha => prOk_app (hi.2.1 ρ' ha) (fun p hp i hi' => by rw [rel2_len q5]; exact prB_ok hb p hp i hi') τ) (lvOk_le (by simp) hi.2.2)) ?_ ?_
  · show cca + dc ≤ ca + dc; omega
  · show ccb + ds ≤ cb + ds; omega
end RUN
