/-! ===== views: hints ===== -/
/-- where a number stands: 0 a view's number, 1 a number of a word, 2 a local, 3 a cell's field, 4 a field by its path, 5 of the program that flies, 6 an element, 7 a constant -/
abbrev SRC : Type := Nat × List Nat × Int
noncomputable def numV (v : Option AV) : Option Ln := match v with
  | some (.inl (_, e)) => some e
  | _ => none
noncomputable def viewX (k : Nat) (row : Option Nat) : List PD → Option Ln
  | [] => none
  | p :: r => bif Nat.beq p.1 k then (match row, p.2.1 with
    | some q, a :: _ => bif Nat.beq q a then (match vwArg p.1 p.2.2 with
      | some (_, X, _) => some X
      | none => none) else viewX k row r
    | _, _ => (match vwArg p.1 p.2.2 with
      | some (_, X, _) => some X
      | none => none)) else viewX k row r
noncomputable def wordC (k i : Nat) : List PD → Option Ln
  | [] => none
  | p :: r => bif Nat.beq p.1 k then (match p.2.1 with
    | [] => p.2.2[i]?
    | _ :: _ => wordC k i r) else wordC k i r
/-- along fields and elements -/
noncomputable def walkA (A : AH) : List Nat → AV → Option AV
  | [], v => some v
  | i :: r, v => match v with
    | .inr (.inl (some q)) => (match A[q]? with
      | some (.inl (_, as)) => (match (as[i]? : Option AV) with
        | some w => walkA A r w
        | none => none)
      | some (.inr (_, .inr (.inr l))) => (match l[i]? with
        | some (some o) => walkA A r (.inr (.inl (some o)))
        | _ => none)
      | _ => none)
    | _ => none
noncomputable def pathA (lv : AL) (A : AH) (p : List Nat) : Option AV := match p with
  | [] => none
  | l :: r => (match alGet l lv with
    | some v => walkA A r v
    | none => none)
noncomputable def elS : List Sg → Nat → Option Ln
  | [], _ => none
  | .inl e :: r, k => match k with
    | 0 => some e
    | k + 1 => elS r k
  | .inr (m, _, _) :: r, k => bif Nat.blt k m then none else elS r (Nat.sub k m)
noncomputable def srcL (s : SRC) (lv : AL) (A : AH) (pr : List PD) (tab : Tb) : Option Ln := match s with
  | (0, [k], _) => viewX k none pr
  | (0, [k, q], _) => viewX k (some q) pr
  | (1, [k, i], _) => wordC k i pr
  | (2, [l], _) => numV (alGet l lv)
  | (3, [c, f], _) => (match A[c]? with
    | some (.inl (_, as)) => numV (as[f]?)
    | _ => none)
  | (4, p, _) => numV (pathA lv A p)
  | (5, [w, b], _) => (match pr.findSome? isLk with
    | some (al, x0, y0, x1, y1, _) => (match cst tab al with
      | some (.ofNat c) => (match c, w, b with
        | 0, 0, 0 => some y0
        | 0, 1, 0 => some x0
        | 1, 0, 0 => some y1
        | 1, 1, 0 => some x1
        | 0, 0, 1 => some y1
        | 0, 1, 1 => some x1
        | 1, 0, 1 => some y0
        | 1, 1, 1 => some x0
        | _, _, _ => none)
      | _ => none)
    | none => none)
  | (6, [q, i], _) => (match A[q]? with
    | some (.inr (_, .inl s)) => elS s i
    | _ => none)
  | (7, _, c) => some (kL c)
  | _ => none
noncomputable def srcLs (lv : AL) (A : AH) (pr : List PD) (tab : Tb) : List SRC → Option (List Ln)
  | [] => some []
  | s :: r => match srcL s lv A pr tab, srcLs lv A pr tab r with
    | some e, some l => some (e :: l)
    | _, _ => none
abbrev LIN : Type := Int × List (Int × SRC)
noncomputable def linT (lv : AL) (A : AH) (pr : List PD) (tab : Tb) : List (Int × SRC) → Ln → Option Ln
  | [], e => some e
  | (k, s) :: r, e => match srcL s lv A pr tab with
    | some v => linT lv A pr tab r (addL e (sclL k v))
    | none => none
noncomputable def linL (l : LIN) (lv : AL) (A : AH) (pr : List PD) (tab : Tb) : Option Ln := linT lv A pr tab l.2 (kL l.1)
/-- numbers put together for the rules -/
noncomputable def fCx (k : Nat) (ss : List SRC) : HF := fun _ lv A pr nx tab fs => bif isCx k then (match srcLs lv A pr tab ss with
  | some (e :: r) => some [(A, (k, [], e :: r) :: pr.filter (fun p => !(Nat.beq p.1 k && isNil p.2.1)), nx, tab, fs)]
  | _ => none) else none
theorem ppk_cx {k : Nat} (h : isCx k = true) {n : Int} {r : List Int} : PPk k [] (n :: r) := by
  obtain ⟨h1, h2⟩ := cand h
  rw [ppk_w (by have := Nat.le_of_ble_eq_true h1; omega) (by have := blt_iff.mp h2; omega)]
  unfold wSem
  rw [h]
  exact trivial
theorem fCx_ok (k : Nat) (ss : List SRC) : HFOk PPk (fCx k ss) := by
  intro pc lv A pr nx tab fs L ρ clv cσ h hr hp
  unfold fCx at h
  cases hk : isCx k with
  | false => rw [hk] at h; cases h
  | true =>
    rw [hk, cond_true] at h
    split at h
    · rename_i e r _
      cases h
      refine ⟨_, List.mem_singleton.mpr rfl, hGood0 (hrA hr) fun ρ' ha => List.forall_mem_cons.mpr ⟨?_, fun p hq => hp ρ' ha p (List.mem_filter.mp hq).1⟩⟩
      exact ppk_cx hk
    · cases h
/-- of numbers' words only those of these kinds stay -/
noncomputable def keepB (ks : List Nat) (p : PD) : Bool := bif (bif Nat.ble 200 p.1 then Nat.blt p.1 600 else false) then memN p.1 ks else true
noncomputable def fKeep (ks : List Nat) : HF := fun _ _ A pr nx tab fs => bif pr.all (keepB ks) then none else some [(A, pr.filter (keepB ks), nx, tab, fs)]
theorem fKeep_ok (ks : List Nat) : HFOk PPk (fKeep ks) := by
  intro pc lv A pr nx tab fs L ρ clv cσ h hr hp
  unfold fKeep at h
  cases hk : pr.all (keepB ks) with
  | true => rw [hk] at h; cases h
  | false =>
    rw [hk, cond_false] at h
    cases h
    exact ⟨_, List.mem_singleton.mpr rfl, hGood0 (hrA hr) fun ρ' ha p hq => hp ρ' ha p (List.mem_filter.mp hq).1⟩
-- cases of a number
/-- the element that was told last: of row X, of place k -/
noncomputable def lastE (X k : Option Ln) (tab : Tb) (fs : List Ln) (one : Bool) : List PD → Option Ln
  | [] => none
  | p :: r => bif Nat.beq p.1 201 then (match p.2.1, p.2.2 with
    | [], [x, i, v] => bif (bif (match X with
        | some X => eqL tab fs X x
        | none => true) then (match k with
        | some k => eqL tab fs k i
        | none => true) else false) then (bif (bif one then (bif isS1 v then isZ v.1 else false) else true) then some v else lastE X k tab fs one r) else lastE X k tab fs one r
    | _, _ => lastE X k tab fs one r) else lastE X k tab fs one r
/-- a state with a symbol's bounds drawn closer -/
noncomputable def cutS (y : Nat) (bs : List (Int × Int)) (A : AH) (pr : List PD) (nx : Nat) (tab : Tb) (fs : List Ln) : List HR := bs.map (fun b => (A, pr, nx, tbIns y b.1 b.2 tab, fs))
theorem cutS_ok {ρ : Nat → Int} {cσ : SH} {y : Nat} {bs : List (Int × Int)} {A : AH} {pr : List PD} {nx : Nat} {tab : Tb} {fs : List Ln} (hy : y < nx) (hr : ∀ ρ', agr2 nx ρ ρ' → tOk ρ' tab ∧ fOk ρ' fs ∧ rel2 (crel ρ') cσ A) (hp : ∀ ρ', agr2 nx ρ ρ' → prOk PPk ρ' cσ pr) (h : ∃ b ∈ bs, b.1 ≤ ρ y ∧ ρ y ≤ b.2) : ∃ q ∈ cutS y bs A pr nx tab fs, HGood ρ nx cσ q := by
  obtain ⟨b, hb, h1, h2⟩ := h
  refine ⟨_, List.mem_map.mpr ⟨b, hb, rfl⟩, ρ, Nat.le_refl _, agr2.rf, fun ρ' ha => ?_, hp⟩
  obtain ⟨t1, t2, t3⟩ := hr ρ' ha
  have e : ρ' y = ρ y := ha y hy
  exact ⟨tOk_cons t1 (by rw [e]; exact h1) (by rw [e]; exact h2), t2, t3⟩
noncomputable def minI (a b : Int) : Int := bif leI a b then a else b
noncomputable def maxI (a b : Int) : Int := bif leI a b then b else a
noncomputable def sgBs (lo hi : Int) : List (Int × Int) := [(lo, minI hi (-1)), (maxI lo 0, minI hi 0), (maxI lo 1, hi)].filter (fun b => leI b.1 b.2)
theorem minI_le {a b z : Int} (h1 : z ≤ a) (h2 : z ≤ b) : z ≤ minI a b := by
  unfold minI
  cases leI a b <;> assumption
theorem maxI_le {a b z : Int} (h1 : a ≤ z) (h2 : b ≤ z) : maxI a b ≤ z := by
  unfold maxI
  cases leI a b <;> assumption
theorem sgBs_ok {lo hi z : Int} (h1 : lo ≤ z) (h2 : z ≤ hi) : ∃ b ∈ sgBs lo hi, b.1 ≤ z ∧ z ≤ b.2 := by
  unfold sgBs
  rcases Int.lt_trichotomy z 0 with h | h | h
  · have a := minI_le h2 (show z ≤ -1 by omega)
    exact ⟨(lo, minI hi (-1)), List.mem_filter.mpr ⟨by simp, leI_iff.mpr (Int.le_trans h1 a)⟩, h1, a⟩
  · have a := minI_le h2 (show z ≤ 0 by omega)
    have b := maxI_le h1 (show 0 ≤ z by omega)
    exact ⟨(maxI lo 0, minI hi 0), List.mem_filter.mpr ⟨by simp, leI_iff.mpr (Int.le_trans b a)⟩, b, a⟩
  · have b := maxI_le h1 (show 1 ≤ z by omega)
    exact ⟨(maxI lo 1, hi), List.mem_filter.mpr ⟨by simp, leI_iff.mpr (Int.le_trans b h2)⟩, b, h2⟩
noncomputable def optL (s : Option SRC) (lv : AL) (A : AH) (pr : List PD) (tab : Tb) : Option (Option Ln) := match s with
  | none => some none
  | some s => (match srcL s lv A pr tab with
    | some e => some (some e)
    | none => none)
noncomputable def optN (s : Option LIN) (lv : AL) (A : AH) (pr : List PD) (tab : Tb) : Option (Option Ln) := match s with
  | none => some none
  | some s => (match linL s lv A pr tab with
    | some e => some (some e)
    | none => none)
noncomputable def two (L : List HR) : Option (List HR) := match L with
  | _ :: _ :: _ => some L
  | _ => none
theorem two_eq {L M : List HR} (h : two L = some M) : M = L := by
  unfold two at h
  split at h
  · cases h; rfl
  · cases h
/-- below, at or above 0 -/
noncomputable def fSg (X : Option SRC) (k : Option LIN) : HF := fun _ lv A pr nx tab fs => match optL X lv A pr tab, optN k lv A pr tab with
  | some X, some k => (match lastE X k tab fs true pr with
    | some v => (match v.2 with
      | [(y, _)] => (match tbLk y tab with
        | some (lo, hi) => bif Nat.blt y nx then two (cutS y (sgBs lo hi) A pr nx tab fs) else none
        | none => none)
      | _ => none)
    | none => none)
  | _, _ => none
theorem fSg_ok (X : Option SRC) (k : Option LIN) : HFOk PPk (fSg X k) := by
  intro pc lv A pr nx tab fs L ρ clv cσ h hr hp
  unfold fSg at h
  split at h
  · split at h
    · split at h
      · rename_i y k0 hv2
        split at h
        · rename_i lo hi hl
          cases hy : Nat.blt y nx with
          | false => rw [hy] at h; cases h
          | true =>
            rw [hy, cond_true] at h
            rw [two_eq h]
            have hb := tbLk_ok (hr ρ agr2.rf).1 hl
            exact cutS_ok (blt_iff.mp hy) (hrA hr) hp (sgBs_ok hb.1 hb.2)
        · cases h
      · cases h
    · cases h
  · cases h
noncomputable def rngB (lo : Int) : Nat → List (Int × Int)
  | 0 => []
  | n + 1 => (lo, lo) :: rngB (lo + 1) n
theorem rngB_ok : ∀ (n : Nat) (lo z : Int), lo ≤ z → z < lo + n → ∃ b ∈ rngB lo n, b.1 ≤ z ∧ z ≤ b.2
  | 0, lo, z, h1, h2 => absurd h2 (by omega)
  | n + 1, lo, z, h1, h2 => by
    by_cases h : z = lo
    · exact ⟨(lo, lo), List.mem_cons_self, by omega, by omega⟩
    · obtain ⟨b, hb, h3⟩ := rngB_ok n (lo + 1) z (by omega) (by omega)
      exact ⟨b, List.mem_cons_of_mem _ hb, h3⟩
noncomputable def ubD (tab : Tb) (fs : List Ln) (e : Ln) (d : Int) : Int := match ubF tab e fs (ub tab e) with
  | some u => minI d u
  | none => d
theorem ubD_ok {ρ : Nat → Int} {tab : Tb} {fs : List Ln} (ht : tOk ρ tab) (hf : fOk ρ fs) {e : Ln} {d : Int} (h : ev ρ e ≤ d) : ev ρ e ≤ ubD tab fs e d := by
  unfold ubD
  split
  · rename_i u hu
    exact minI_le h (ubF_ok ht hf (fun x hx => ub_ok ht hx) hu)
  · exact h
/-- the number told at a place of X, one by one -/
noncomputable def fSv (X : SRC) (k : LIN) : HF := fun _ lv A pr nx tab fs => match srcL X lv A pr tab, linL k lv A pr tab with
  | some X, some k => (match lastE (some X) (some k) tab fs true pr with
    | some v => (match v.2 with
      | [(y, _)] => (match tbLk y tab with
        | some (lo, hi) => (fun (lo hi : Int) => bif (bif Nat.blt y nx then (bif leI (Int.add lo 1) hi then leI hi (Int.add lo 16) else false) else false) then some (cutS y (rngB lo (natP (Int.add (Int.sub hi lo) 1))) A pr nx tab fs) else none) (Int.neg (ubD tab fs (sclL (.negSucc 0) (sL y)) (Int.neg lo))) (ubD tab fs (sL y) hi)
        | none => none)
      | _ => none)
    | none => none)
  | _, _ => none
theorem fSv_ok (X : SRC) (k : LIN) : HFOk PPk (fSv X k) := by
  intro pc lv A pr nx tab fs L ρ clv cσ h hr hp
  unfold fSv at h
  split at h
  · split at h
    · split at h
      · rename_i y k0 hv2
        split at h
        · rename_i lo hi hl
          obtain ⟨t1, t2, -⟩ := hr ρ agr2.rf
          have hb := tbLk_ok t1 hl
          try dsimp only at h
          have m1 : (Int.negSucc 0 : Int) = -1 := rfl
          have g1 := ubD_ok t1 t2 (e := sclL (.negSucc 0) (sL y)) (d := Int.neg lo) (by rw [ev_scl, ev_s, m1]; show -1 * ρ y ≤ -lo; have := hb.1; dsimp only at this; omega)
          have g2 := ubD_ok t1 t2 (e := sL y) (d := hi) (by rw [ev_s]; exact hb.2)
          generalize ubD tab fs (sclL (.negSucc 0) (sL y)) (Int.neg lo) = a at h g1
          generalize ubD tab fs (sL y) hi = b at h g2
          rw [ev_scl, ev_s, m1] at g1
          rw [ev_s] at g2
          cases hc : (bif Nat.blt y nx then (bif leI (Int.add (Int.neg a) 1) b then leI b (Int.add (Int.neg a) 16) else false) else false) with
          | false => rw [hc] at h; cases h
          | true =>
            rw [hc, cond_true] at h
            cases h
            obtain ⟨c1, c2⟩ := cand hc
            have c3 := leI_le (cand c2).1
            have e1 : Int.add (Int.neg a) 1 = -a + 1 := rfl
            rw [e1] at c3
            refine cutS_ok (blt_iff.mp c1) (hrA hr) hp (rngB_ok _ (Int.neg a) (ρ y) (show -a ≤ ρ y by omega) ?_)
            have e2 : Int.add (Int.sub b (Int.neg a)) 1 = b - -a + 1 := rfl
            rw [e2]
            obtain ⟨n, hn⟩ : ∃ n : Nat, b - -a + 1 = n := ⟨(b - -a + 1).toNat, by omega⟩
            rw [hn]
            show ρ y < -a + ((natP (Int.ofNat n) : Nat) : Int)
            show ρ y < -a + (n : Int)
            omega
        · cases h
      · cases h
    · cases h
  · cases h
/-- states by facts -/
noncomputable def factS (e : Ln) (A : AH) (pr : List PD) (nx : Nat) (tab : Tb) (fs : List Ln) : List HR := match addLe tab fs e with
  | some (tab', fs') => [(A, pr, nx, tab', fs')]
  | none => []
theorem factS_ok {ρ : Nat → Int} {cσ : SH} {e : Ln} {A : AH} {pr : List PD} {nx : Nat} {tab : Tb} {fs : List Ln} (hr : ∀ ρ', agr2 nx ρ ρ' → tOk ρ' tab ∧ fOk ρ' fs ∧ rel2 (crel ρ') cσ A) (hp : ∀ ρ', agr2 nx ρ ρ' → prOk PPk ρ' cσ pr) (he : ∀ ρ', agr2 nx ρ ρ' → ev ρ' e ≤ 0) : ∃ q ∈ factS e A pr nx tab fs, HGood ρ nx cσ q := by
  unfold factS
  obtain ⟨t1, t2, -⟩ := hr ρ agr2.rf
  obtain ⟨tab', fs', e1, -, -⟩ := addLe_ok t1 t2 (he ρ agr2.rf)
  rw [e1]
  refine ⟨_, List.mem_singleton.mpr rfl, ρ, Nat.le_refl _, agr2.rf, fun ρ' ha => ?_, hp⟩
  obtain ⟨u1, u2, u3⟩ := hr ρ' ha
  obtain ⟨tab2, fs2, e2, a1, a2⟩ := addLe_ok u1 u2 (he ρ' ha)
  rw [e1] at e2
  cases e2
  exact ⟨a1, a2, u3⟩
/-- a sum is at most 0, or more -/
noncomputable def fCt (l : LIN) : HF := fun _ lv A pr nx tab fs => match linL l lv A pr tab with
  | some e => bif (bif scL nx e then (bif le0 tab fs e then true else le0 tab fs (pluL (sclL (.negSucc 0) e) 1)) else true) then none else some (factS e A pr nx tab fs ++ factS (pluL (sclL (.negSucc 0) e) 1) A pr nx tab fs)
  | none => none
theorem fCt_ok (l : LIN) : HFOk PPk (fCt l) := by
  intro pc lv A pr nx tab fs L ρ clv cσ h hr hp
  unfold fCt at h
  split at h
  · rename_i e _
    cases hc : (bif scL nx e then (bif le0 tab fs e then true else le0 tab fs (pluL (sclL (.negSucc 0) e) 1)) else true) with
    | true => rw [hc] at h; cases h
    | false =>
      rw [hc, cond_false] at h
      cases h
      have hs : scL nx e = true := by
        cases z : scL nx e with
        | true => rfl
        | false => rw [z] at hc; cases hc
      have m1 : (Int.negSucc 0 : Int) = -1 := rfl
      by_cases hz : ev ρ e ≤ 0
      · obtain ⟨q, hq, g⟩ := factS_ok (hrA hr) hp (e := e) (fun ρ' ha => by rw [scL_ev ha hs]; exact hz)
        exact ⟨q, List.mem_append_left _ hq, g⟩
      · obtain ⟨q, hq, g⟩ := factS_ok (hrA hr) hp (e := pluL (sclL (.negSucc 0) e) 1) (fun ρ' ha => by rw [ev_plu, ev_scl, scL_ev ha hs, m1]; omega)
        exact ⟨q, List.mem_append_right _ hq, g⟩
  · cases h
/-- a fact that follows from two -/
noncomputable def fAd (l : LIN) : HF := fun _ lv A pr nx tab fs => match linL l lv A pr tab with
  | some e => bif (bif le0 tab fs e then false else le2 tab fs e) then some [(A, pr, nx, tab, e :: fs)] else none
  | none => none
theorem fAd_ok (l : LIN) : HFOk PPk (fAd l) := by
  intro pc lv A pr nx tab fs L ρ clv cσ h hr hp
  unfold fAd at h
  split at h
  · rename_i e _
    cases hc : (bif le0 tab fs e then false else le2 tab fs e) with
    | false => rw [hc] at h; cases h
    | true =>
      rw [hc, cond_true] at h
      cases h
      have h2 : le2 tab fs e = true := by
        cases z : le0 tab fs e with
        | true => rw [z] at hc; cases hc
        | false => rw [z] at hc; exact hc
      refine ⟨_, List.mem_singleton.mpr rfl, hGood0 (fun ρ' ha => ?_) hp⟩
      obtain ⟨t1, t2, t3⟩ := hrA hr ρ' ha
      exact ⟨t1, fOk_cons t2 (le2_ok t1 t2 h2), t3⟩
  · cases h
/-- the number that was loaded last is below, at or above this one -/
noncomputable def fC3 (s : SRC) : HF := fun _ lv A pr nx tab fs => match srcL s lv A pr tab, lastE none none tab fs false pr with
  | some z, some v => bif (bif scL nx z then scL nx v else false) then two (factS (pluL (subL v z) 1) A pr nx tab fs ++ ((match addLe tab fs (subL v z) with
    | some (t1, f1) => factS (subL z v) A pr nx t1 f1
    | none => []) ++ factS (pluL (subL z v) 1) A pr nx tab fs)) else none
  | _, _ => none
theorem fC3_ok (s : SRC) : HFOk PPk (fC3 s) := by
  intro pc lv A pr nx tab fs L ρ clv cσ h hr hp
  unfold fC3 at h
  split at h
  · rename_i z v _ _
    cases hs : (bif scL nx z then scL nx v else false) with
    | false => rw [hs] at h; cases h
    | true =>
      rw [hs, cond_true] at h
      obtain ⟨s1, s2⟩ := cand hs
      rw [two_eq h]
      have ez : ∀ ρ', agr2 nx ρ ρ' → ev ρ' z = ev ρ z := fun ρ' ha => scL_ev ha s1
      have evv : ∀ ρ', agr2 nx ρ ρ' → ev ρ' v = ev ρ v := fun ρ' ha => scL_ev ha s2
      rcases Int.lt_trichotomy (ev ρ v) (ev ρ z) with hz | hz | hz
      · obtain ⟨q, hq, g⟩ := factS_ok (hrA hr) hp (e := pluL (subL v z) 1) (fun ρ' ha => by rw [ev_plu, ev_sub, ez ρ' ha, evv ρ' ha]; omega)
        exact ⟨q, List.mem_append_left _ hq, g⟩
      · have h1 : ∀ ρ', agr2 nx ρ ρ' → ev ρ' (subL v z) ≤ 0 := fun ρ' ha => by rw [ev_sub, ez ρ' ha, evv ρ' ha]; omega
        obtain ⟨t1, t2, -⟩ := hr ρ agr2.rf
        obtain ⟨tab1, fs1, e1, -, -⟩ := addLe_ok t1 t2 (h1 ρ agr2.rf)
        have hr1 : ∀ ρ', agr2 nx ρ ρ' → tOk ρ' tab1 ∧ fOk ρ' fs1 ∧ rel2 (crel ρ') cσ A := fun ρ' ha => by
          obtain ⟨u1, u2, u3⟩ := hrA hr ρ' ha
          obtain ⟨tab2, fs2, e2, a1, a2⟩ := addLe_ok u1 u2 (h1 ρ' ha)
          rw [e1] at e2
          cases e2
          exact ⟨a1, a2, u3⟩
        obtain ⟨q, hq, g⟩ := factS_ok hr1 hp (e := subL z v) (fun ρ' ha => by rw [ev_sub, ez ρ' ha, evv ρ' ha]; omega)
        rw [e1]
        exact ⟨q, List.mem_append_right _ (List.mem_append_left _ hq), g⟩
      · obtain ⟨q, hq, g⟩ := factS_ok (hrA hr) hp (e := pluL (subL z v) 1) (fun ρ' ha => by rw [ev_plu, ev_sub, ez ρ' ha, evv ρ' ha]; omega)
        exact ⟨q, List.mem_append_right _ (List.mem_append_right _ hq), g⟩
  · cases h
/-- which of two programs flies, once it is told -/
noncomputable def fLv : HF := fun _ _ A pr nx tab fs => match pr.findSome? isLk with
  | some (al, x0, y0, x1, y1, n, s, m, t) => (match cst tab al with
    | some (.ofNat 0) => some [(A, pr, nx, tab, [subL n x0, subL x0 n, subL m x1, subL x1 m, subL s y0, subL y0 s, subL t y1, subL y1 t] ++ fs)]
    | some (.ofNat 1) => some [(A, pr, nx, tab, [subL n x1, subL x1 n, subL m x0, subL x0 m, subL s y1, subL y1 s, subL t y0, subL y0 t] ++ fs)]
    | _ => none)
  | none => none
theorem fLv_ok : HFOk PPk fLv := by
  intro pc lv A pr nx tab fs L ρ clv cσ h hr hp
  unfold fLv at h
  split at h
  · rename_i al x0 y0 x1 y1 n s m t hl
    obtain ⟨p, hm, hi⟩ := List.exists_of_findSome?_eq_some hl
    have hi' := isLk_inv hi
    subst hi'
    split at h
    · rename_i hc
      cases h
      refine ⟨_, List.mem_singleton.mpr rfl, hGood0 (fun ρ' ha => ?_) hp⟩
      obtain ⟨t1, t2, t3⟩ := hrA hr ρ' ha
      obtain ⟨k1, k2, k3, k4⟩ := (lk_ok (hp ρ' ha) hm).1 (by rw [cst_ok t1 hc]; rfl)
      refine ⟨t1, fun f hf => ?_, t3⟩
      simp only [List.cons_append, List.nil_append, List.mem_cons] at hf
      rcases hf with rfl | rfl | rfl | rfl | rfl | rfl | rfl | rfl | hf
      all_goals first
        | exact t2 _ hf
        | (rw [ev_sub]; omega)
    · rename_i hc
      cases h
      refine ⟨_, List.mem_singleton.mpr rfl, hGood0 (fun ρ' ha => ?_) hp⟩
      obtain ⟨t1, t2, t3⟩ := hrA hr ρ' ha
      obtain ⟨k1, k2, k3, k4⟩ := (lk_ok (hp ρ' ha) hm).2 (by rw [cst_ok t1 hc]; rfl)
      refine ⟨t1, fun f hf => ?_, t3⟩
      simp only [List.cons_append, List.nil_append, List.mem_cons] at hf
      rcases hf with rfl | rfl | rfl | rfl | rfl | rfl | rfl | rfl | hf
      all_goals first
        | exact t2 _ hf
        | (rw [ev_sub]; omega)
    · cases h
  · cases h
