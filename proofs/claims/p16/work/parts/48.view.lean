/-! ===== views in the runner: loads, stores and operations told ===== -/
noncomputable def isVw (k : Nat) : Bool := bif Nat.ble 100 k then Nat.blt k 200 else false
/-- a view's numbers: where it begins, its number, how many -/
noncomputable def vwArg (k : Nat) (ns : List Ln) : Option (Ln × Ln × Ln) := match ns with
  | [X] => bif isMd k then none else some (kL 0, X, kL 0)
  | [a, b] => bif isMd k then some (a, b, kL 0) else some (kL 0, a, b)
  | [o, X, n] => bif isMd k then some (o, X, n) else none
  | _ => none
noncomputable def vwSet (k : Nat) (ns : List Ln) (Y : Ln) : List Ln := match ns with
  | [_] => [Y]
  | [a, b] => bif isMd k then [a, Y] else [Y, b]
  | [o, _, n] => [o, Y, n]
  | l => l
theorem isVw_r {k : Nat} (h : isVw k = true) : 100 ≤ k ∧ k < 200 := by
  obtain ⟨h1, h2⟩ := cand h
  exact ⟨Nat.le_of_ble_eq_true h1, blt_iff.mp h2⟩
theorem ppk_v {k : Nat} (hk : isVw k = true) {ls : List (List Int32)} {n : Int} {r : List Int} : PPk k ls (n :: r) = PPv k ls (n :: r) := by
  obtain ⟨h1, h2⟩ := isVw_r hk
  show (bif isX k then PPx k ls (n :: r) else bif isW k then PPw k ls (n :: r) else PPn k ls (n :: r)) = _
  have e1 : isX k = false := by
    unfold isX
    rw [nble (by omega : 29 < k)]
    cases Nat.ble 22 k <;> rfl
  have e2 : isW k = true := by
    unfold isW
    rw [Nat.ble_eq_true_of_le (by omega : 99 ≤ k), blt_iff.mpr (by omega : k < 600)]
    rfl
  rw [e1, e2]
  show PPw k ls (n :: r) = _
  unfold PPw
  rw [blt_iff.mpr h2]
  rfl
theorem vw_get {k : Nat} (hk : isVw k = true) {ls : List (List Int32)} {ns : List Ln} {o X n : Ln} {ρ : Nat → Int} (ha : vwArg k ns = some (o, X, n)) (h : PPk k ls (ns.map (ev ρ))) : vOk k ls (ev ρ o) (ev ρ X) (ev ρ n) := by
  have h99 : k ≠ 99 := by have := isVw_r hk; omega
  have e0 : ev ρ (kL 0) = 0 := ev_k ρ 0
  unfold vwArg at ha
  match ns, ha, h with
  | [Y], ha, h =>
    cases hm : isMd k with
    | true => simp only [hm, cond_true] at ha; cases ha
    | false =>
      simp only [hm, cond_false] at ha
      cases ha
      rw [e0]
      rw [List.map_cons, ppk_v hk] at h
      exact h.2
  | [a, b], ha, h =>
    rw [List.map_cons, ppk_v hk] at h
    have h' : (isMd k = true ∧ vOk k ls (ev ρ a) (ev ρ b) 0) ∨ (isMd k = false ∧ vOk k ls 0 (ev ρ a) (ev ρ b)) := h
    cases hm : isMd k with
    | true =>
      simp only [hm, cond_true] at ha
      cases ha
      rw [e0]
      rcases h' with h' | h'
      · exact h'.2
      · rw [hm] at h'; cases h'.1
    | false =>
      simp only [hm, cond_false] at ha
      cases ha
      rw [e0]
      rcases h' with h' | h'
      · rw [hm] at h'; cases h'.1
      · exact h'.2
  | [a, b, c], ha, h =>
    rw [List.map_cons, ppk_v hk] at h
    have h' : isMd k = true ∧ vOk k ls (ev ρ a) (ev ρ b) (ev ρ c) := h
    cases hm : isMd k with
    | false => simp only [hm, cond_false] at ha; cases ha
    | true =>
      simp only [hm, cond_true] at ha
      cases ha
      exact h'.2
  | [], ha, _ => cases ha
  | _ :: _ :: _ :: _ :: _, ha, _ => cases ha
theorem vw_put {k : Nat} (hk : isVw k = true) {ls : List (List Int32)} {ns : List Ln} {o X n Y : Ln} {ρ : Nat → Int} (ha : vwArg k ns = some (o, X, n)) (h : vOk k ls (ev ρ o) (ev ρ Y) (ev ρ n)) : PPk k ls ((vwSet k ns Y).map (ev ρ)) := by
  have e0 : ev ρ (kL 0) = 0 := ev_k ρ 0
  unfold vwArg at ha
  match ns, ha with
  | [Z], ha =>
    cases hm : isMd k with
    | true => simp only [hm, cond_true] at ha; cases ha
    | false =>
      simp only [hm, cond_false] at ha
      cases ha
      rw [e0] at h
      show PPk k ls [ev ρ Y]
      rw [ppk_v hk]
      exact ⟨hm, h⟩
  | [a, b], ha =>
    cases hm : isMd k with
    | true =>
      simp only [hm, cond_true] at ha
      cases ha
      rw [e0] at h
      have e : vwSet k [o, X] Y = [o, Y] := by unfold vwSet; rw [hm]; rfl
      rw [e]
      show PPk k ls [ev ρ o, ev ρ Y]
      rw [ppk_v hk]
      exact Or.inl ⟨hm, h⟩
    | false =>
      simp only [hm, cond_false] at ha
      cases ha
      rw [e0] at h
      have e : vwSet k [X, n] Y = [Y, n] := by unfold vwSet; rw [hm]; rfl
      rw [e]
      show PPk k ls [ev ρ Y, ev ρ n]
      rw [ppk_v hk]
      exact Or.inr ⟨hm, h⟩
  | [a, b, c], ha =>
    cases hm : isMd k with
    | false => simp only [hm, cond_false] at ha; cases ha
    | true =>
      simp only [hm, cond_true] at ha
      cases ha
      show PPk k ls [ev ρ o, ev ρ Y, ev ρ n]
      rw [ppk_v hk]
      exact ⟨hm, h⟩
  | [], ha => cases ha
  | _ :: _ :: _ :: _ :: _, ha => cases ha
theorem ppk_w {k : Nat} (h1 : 200 ≤ k) (h2 : k < 600) {n : Int} {r : List Int} : PPk k [] (n :: r) = wSem k (n :: r) := by
  show (bif isX k then PPx k [] (n :: r) else bif isW k then PPw k [] (n :: r) else PPn k [] (n :: r)) = _
  have e1 : isX k = false := by
    unfold isX
    rw [nble (by omega : 29 < k)]
    cases Nat.ble 22 k <;> rfl
  have e2 : isW k = true := by
    unfold isW
    rw [Nat.ble_eq_true_of_le (by omega : 99 ≤ k), blt_iff.mpr (by omega : k < 600)]
    rfl
  rw [e1, e2]
  show PPw k [] (n :: r) = _
  unfold PPw
  have e3 : Nat.blt k 200 = false := by
    cases z : Nat.blt k 200 with
    | false => rfl
    | true => have := blt_iff.mp z; omega
  rw [e3]
  rfl
-- which of a view's places a row's place is
noncomputable def mod0 (s : Nat) : List (Nat × Int) → Bool
  | [] => true
  | (_, k) :: r => bif isZ (Int.emod k s) then mod0 s r else false
noncomputable def divT (s : Nat) : List (Nat × Int) → List (Nat × Int)
  | [] => []
  | (y, k) :: r => (y, Int.ediv k s) :: divT s r
noncomputable def ndivL (e : Ln) (s : Nat) : Option Ln := bif Nat.beq s 1 then some e else bif isZ (Int.emod e.1 s) then (bif mod0 s e.2 then some (Int.ediv e.1 s, divT s e.2) else none) else none
theorem mod0_ok {s : Nat} {ρ : Nat → Int} : ∀ {l : List (Nat × Int)}, mod0 s l = true → (s : Int) * evT ρ (divT s l) = evT ρ l
  | [], _ => Int.mul_zero _
  | (y, k) :: r, h => by
    unfold mod0 at h
    cases z : isZ (Int.emod k s) with
    | false => rw [z] at h; cases h
    | true =>
      rw [z, cond_true] at h
      have e1 : k % (s : Int) = 0 := isZ_eq z
      have e2 : (s : Int) * (k / (s : Int)) = k := Int.mul_ediv_cancel' (Int.dvd_of_emod_eq_zero e1)
      show (s : Int) * (Int.ediv k s * ρ y + evT ρ (divT s r)) = k * ρ y + evT ρ r
      rw [Int.mul_add, mod0_ok h, ← Int.mul_assoc]
      have e3 : (s : Int) * Int.ediv k s = k := e2
      rw [e3]
theorem ndivL_ok {e j : Ln} {s : Nat} {ρ : Nat → Int} (h : ndivL e s = some j) : ev ρ e = s * ev ρ j := by
  unfold ndivL at h
  cases h1 : Nat.beq s 1 with
  | true =>
    rw [h1, cond_true] at h
    cases h
    rw [Nat.eq_of_beq_eq_true h1]
    show ev ρ e = (1 : Int) * ev ρ e
    omega
  | false =>
    rw [h1, cond_false] at h
    cases h2 : isZ (Int.emod e.1 s) with
    | false => rw [h2] at h; cases h
    | true =>
      rw [h2, cond_true] at h
      cases h3 : mod0 s e.2 with
      | false => rw [h3] at h; cases h
      | true =>
        rw [h3, cond_true] at h
        cases h
        have e1 : e.1 % (s : Int) = 0 := isZ_eq h2
        have e2 : (s : Int) * (e.1 / (s : Int)) = e.1 := Int.mul_ediv_cancel' (Int.dvd_of_emod_eq_zero e1)
        show e.1 + evT ρ e.2 = s * (Int.ediv e.1 s + evT ρ (divT s e.2))
        rw [Int.mul_add, mod0_ok h3]
        have e3 : (s : Int) * Int.ediv e.1 s = e.1 := e2
        rw [e3]
theorem mod0_emod {s : Nat} {ρ : Nat → Int} {l : List (Nat × Int)} (h : mod0 s l = true) : evT ρ l % (s : Int) = 0 := by
  rw [← mod0_ok h]
  exact Int.mul_emod_right _ _
/-- between two places of the stride -/
noncomputable def btwL (tab : Tb) (d : Ln) (s : Nat) : Bool := match lb tab d, ub tab d with
  | some lo, some hi => bif isZ (Int.emod lo s) then false else eqI (Int.ediv lo s) (Int.ediv hi s)
  | _, _ => false
theorem btwL_ok {tab : Tb} {d : Ln} {s : Nat} {ρ : Nat → Int} (ht : tOk ρ tab) (hs : 0 < s) (h : btwL tab d s = true) (j : Nat) : ev ρ d ≠ s * j := by
  unfold btwL at h
  split at h
  · rename_i lo hi h1 h2
    have b1 := lb_ok ht h1
    have b2 := ub_ok ht h2
    cases z : isZ (Int.emod lo s) with
    | true => rw [z] at h; cases h
    | false =>
      rw [z, cond_false] at h
      have e1 : lo / (s : Int) = hi / (s : Int) := eqI_eq h
      have hne : lo % (s : Int) ≠ 0 := fun e => by
        have : isZ (Int.emod lo s) = true := by
          show isZ (lo % (s : Int)) = true
          rw [e]; rfl
        rw [this] at z; cases z
      intro e
      have hs' : (0 : Int) < s := by omega
      have c1 : lo / (s : Int) ≤ (s * j : Int) / s := Int.ediv_le_ediv hs' (by omega)
      have c2 : (s * j : Int) / s ≤ hi / (s : Int) := Int.ediv_le_ediv hs' (by omega)
      have c3 : (s * j : Int) / s = j := Int.mul_ediv_cancel_left _ (by omega)
      have c4 : (s : Int) * (lo / s) + lo % s = lo := Int.mul_ediv_add_emod lo s
      have c5 : lo / (s : Int) = j := by omega
      rw [c5] at c4
      have c6 := Int.emod_nonneg lo (show (s : Int) ≠ 0 by omega)
      omega
  · cases h
/-- some none: none of them; some (some j): the j-th -/
noncomputable def hitP (tab : Tb) (fs : List Ln) (d : Ln) (s : Nat) (n : Ln) : Option (Option Ln) := bif le0 tab fs (pluL d 1) then some none else bif le0 tab fs (pluL (subL (sclL s n) d) (Int.sub 1 s)) then some none else bif (bif Nat.ble s 1 then false else btwL tab d s) then some none else match ndivL d s with
  | some j => bif le0 tab fs (sclL (.negSucc 0) j) then (bif le0 tab fs (pluL (subL j n) 1) then some (some j) else none) else none
  | none => bif (bif Nat.ble s 1 then false else mod0 s d.2) then some none else none
theorem hitP_none {tab : Tb} {fs : List Ln} {d n : Ln} {s : Nat} {ρ : Nat → Int} (ht : tOk ρ tab) (hf : fOk ρ fs) (hs : 0 < s) (h : hitP tab fs d s n = some none) (j : Nat) (hj : (j : Int) < ev ρ n) : ev ρ d ≠ s * j := by
  unfold hitP at h
  cases h1 : le0 tab fs (pluL d 1) with
  | true =>
    have := le0_ok ht hf h1
    rw [ev_plu] at this
    intro e
    have : (0 : Int) ≤ s * j := Int.mul_nonneg (by omega) (by omega)
    omega
  | false =>
    rw [h1, cond_false] at h
    cases h2 : le0 tab fs (pluL (subL (sclL s n) d) (Int.sub 1 s)) with
    | true =>
      have g := le0_ok ht hf h2
      rw [ev_plu, ev_sub, ev_scl] at g
      have e1 : Int.sub 1 s = 1 - (s : Int) := rfl
      rw [e1] at g
      intro e
      have m1 : (s : Int) * (j + 1) ≤ s * ev ρ n := Int.mul_le_mul_of_nonneg_left (by omega) (by omega)
      rw [Int.mul_add, Int.mul_one] at m1
      omega
    | false =>
      rw [h2, cond_false] at h
      cases h3 : (bif Nat.ble s 1 then false else btwL tab d s) with
      | true =>
        cases h4 : Nat.ble s 1 with
        | true => rw [h4] at h3; cases h3
        | false => rw [h4, cond_false] at h3; exact btwL_ok ht hs h3 j
      | false =>
        rw [h3, cond_false] at h
        split at h
        · rename_i i _
          cases h5 : le0 tab fs (sclL (.negSucc 0) i) with
          | false => rw [h5] at h; cases h
          | true =>
            rw [h5, cond_true] at h
            cases h6 : le0 tab fs (pluL (subL i n) 1) with
            | false => rw [h6] at h; cases h
            | true => rw [h6] at h; cases h
        · rename_i hn
          cases h4 : Nat.ble s 1 with
          | true => rw [h4] at h; cases h
          | false =>
            rw [h4, cond_false] at h
            cases h5 : mod0 s d.2 with
            | false => rw [h5] at h; cases h
            | true =>
              intro e
              have e1 : ev ρ d = d.1 + evT ρ d.2 := rfl
              have e2 := mod0_emod (ρ := ρ) h5
              have e3 : d.1 % (s : Int) = 0 := by
                have e4 : (d.1 + evT ρ d.2) % (s : Int) = 0 := by
                  rw [← e1, e]
                  exact Int.mul_emod_right _ _
                rw [Int.add_emod, e2, Int.add_zero, Int.emod_emod] at e4
                exact e4
              unfold ndivL at hn
              have h6 : Nat.beq s 1 = false := nbeq (fun q => by rw [q] at h4; cases h4)
              have h7 : isZ (Int.emod d.1 s) = true := by
                show isZ (d.1 % (s : Int)) = true
                rw [e3]; rfl
              rw [h6, h7, h5] at hn
              cases hn
theorem hitP_some {tab : Tb} {fs : List Ln} {d n j : Ln} {s : Nat} {ρ : Nat → Int} (ht : tOk ρ tab) (hf : fOk ρ fs) (h : hitP tab fs d s n = some (some j)) : ev ρ d = s * ev ρ j ∧ 0 ≤ ev ρ j ∧ ev ρ j < ev ρ n := by
  unfold hitP at h
  cases h1 : le0 tab fs (pluL d 1) with
  | true => rw [h1] at h; cases h
  | false =>
    rw [h1, cond_false] at h
    cases h2 : le0 tab fs (pluL (subL (sclL s n) d) (Int.sub 1 s)) with
    | true => rw [h2] at h; cases h
    | false =>
      rw [h2, cond_false] at h
      cases h3 : (bif Nat.ble s 1 then false else btwL tab d s) with
      | true => rw [h3] at h; cases h
      | false =>
        rw [h3, cond_false] at h
        split at h
        · rename_i i hi
          cases h5 : le0 tab fs (sclL (.negSucc 0) i) with
          | false => rw [h5] at h; cases h
          | true =>
            rw [h5, cond_true] at h
            cases h6 : le0 tab fs (pluL (subL i n) 1) with
            | false => rw [h6] at h; cases h
            | true =>
              rw [h6] at h
              cases h
              have g1 := le0_ok ht hf h5
              have g2 := le0_ok ht hf h6
              rw [ev_scl] at g1
              rw [ev_plu, ev_sub] at g2
              have e1 : (Int.negSucc 0 : Int) = -1 := rfl
              rw [e1] at g1
              exact ⟨ndivL_ok hi, by omega, by omega⟩
        · cases h4 : (bif Nat.ble s 1 then false else mod0 s d.2) with
          | false => rw [h4] at h; cases h
          | true => rw [h4] at h; cases h
/-- a constant, where it is known -/
noncomputable def cstL (tab : Tb) (e : Ln) : Ln := match cst tab e with
  | some c => kL c
  | none => e
theorem cstL_ok {tab : Tb} {e : Ln} {ρ : Nat → Int} (ht : tOk ρ tab) : ev ρ (cstL tab e) = ev ρ e := by
  unfold cstL
  split
  · rename_i c hc
    rw [ev_k, cst_ok ht hc]
  · rfl
noncomputable def cnL (p : VP) (n : Ln) : Ln := match p.2.2.2.2.2 with
  | some c => kL (.ofNat c)
  | none => n
noncomputable def kapL (tab : Tb) (p : VP) (j : Ln) : Ln := cstL tab (pluL (sclL (.ofNat p.2.2.2.2.1) j) (.ofNat p.2.2.2.1))
/-- the places in the view's number that row a's place e has: through all pieces -/
noncomputable def hitF (tab : Tb) (fs : List Ln) (a : Nat) (e : Ln) (rows : List Nat) (o n : Ln) : List VP → Option (List Ln)
  | [] => some []
  | p :: r => match rows[p.1]? with
    | some q => bif Nat.beq q a then (match hitP tab fs (subL e (pluL o (.ofNat p.2.1))) p.2.2.1 (cnL p n) with
      | none => none
      | some none => hitF tab fs a e rows o n r
      | some (some j) => match hitF tab fs a e rows o n r with
        | some l => some (kapL tab p j :: l)
        | none => none) else hitF tab fs a e rows o n r
    | none => none
theorem hitF_ok {tab : Tb} {fs : List Ln} {a : Nat} {e o n : Ln} {rows : List Nat} {ρ : Nat → Int} {m : Nat} (ht : tOk ρ tab) (hf : fOk ρ fs) (hm : ev ρ n = m) : ∀ {L : List VP} {l : List Ln}, (∀ p ∈ L, 0 < p.2.2.1) → hitF tab fs a e rows o n L = some l → (∀ p ∈ L, ∃ q, rows[p.1]? = some q) ∧ (∀ (i : Nat) (p : VP) (j : Nat), L[i]? = some p → rows[p.1]? = some a → j < cnV p m → ev ρ e = ev ρ o + p.2.1 + p.2.2.1 * j → ∃ κ ∈ l, ev ρ κ = p.2.2.2.1 + p.2.2.2.2.1 * j) ∧ (∀ κ ∈ l, ∃ (i : Nat) (p : VP) (j : Nat), L[i]? = some p ∧ rows[p.1]? = some a ∧ j < cnV p m ∧ ev ρ e = ev ρ o + p.2.1 + p.2.2.1 * j ∧ ev ρ κ = p.2.2.2.1 + p.2.2.2.2.1 * j) := by
  intro L
  induction L with
  | nil =>
    intro l _ h
    cases h
    exact ⟨fun p hp => (by cases hp), fun i p j hi => (by cases hi), fun κ hκ => (by cases hκ)⟩
  | cons p r ih =>
    intro l hs h
    have hcn : ev ρ (cnL p n) = cnV p m := by
      unfold cnL cnV
      cases p.2.2.2.2.2 with
      | some c =>
        rw [ev_k]
        rfl
      | none => exact hm
    have hr : ∀ p ∈ r, 0 < p.2.2.1 := fun p hp => hs p (List.mem_cons_of_mem _ hp)
    have s0 := hs p List.mem_cons_self
    unfold hitF at h
    split at h
    · rename_i q hq
      cases hb : Nat.beq q a with
      | false =>
        rw [hb, cond_false] at h
        obtain ⟨i1, i2, i3⟩ := ih hr h
        refine ⟨List.forall_mem_cons.mpr ⟨⟨q, hq⟩, i1⟩, fun i x j hi hx hj he => ?_, fun κ hκ => ?_⟩
        · match i, hi with
          | 0, hi =>
            cases hi
            rw [hq] at hx
            cases hx
            rw [Nat.beq_refl] at hb
            cases hb
          | i + 1, hi => exact i2 i x j hi hx hj he
        · obtain ⟨i, x, j, w⟩ := i3 κ hκ
          exact ⟨i + 1, x, j, w⟩
      | true =>
        rw [hb, cond_true] at h
        have hqa := Nat.eq_of_beq_eq_true hb
        subst hqa
        have hd : ev ρ (subL e (pluL o (.ofNat p.2.1))) = ev ρ e - (ev ρ o + p.2.1) := by rw [ev_sub, ev_plu]; rfl
        split at h
        · cases h
        · rename_i hp
          obtain ⟨i1, i2, i3⟩ := ih hr h
          refine ⟨List.forall_mem_cons.mpr ⟨⟨q, hq⟩, i1⟩, fun i x j hi hx hj he => ?_, fun κ hκ => ?_⟩
          · match i, hi with
            | 0, hi =>
              cases hi
              have := hitP_none ht hf s0 hp j (by rw [hcn]; omega)
              rw [hd] at this
              exact absurd (by omega) this
            | i + 1, hi => exact i2 i x j hi hx hj he
          · obtain ⟨i, x, j, w⟩ := i3 κ hκ
            exact ⟨i + 1, x, j, w⟩
        · rename_i j0 hp
          split at h
          · rename_i l' hl'
            cases h
            obtain ⟨i1, i2, i3⟩ := ih hr hl'
            obtain ⟨g1, g2, g3⟩ := hitP_some ht hf hp
            rw [hd] at g1
            rw [hcn] at g3
            have hκ0 : ev ρ (kapL tab p j0) = p.2.2.2.1 + p.2.2.2.2.1 * ev ρ j0 := by
              unfold kapL
              rw [cstL_ok ht, ev_plu, ev_scl]
              show ((p.2.2.2.2.1 : Nat) : Int) * _ + ((p.2.2.2.1 : Nat) : Int) = _
              omega
            obtain ⟨jn, hjn⟩ : ∃ jn : Nat, ev ρ j0 = jn := ⟨(ev ρ j0).toNat, by omega⟩
            rw [hjn] at g1 g3 hκ0
            refine ⟨List.forall_mem_cons.mpr ⟨⟨q, hq⟩, i1⟩, fun i x j hi hx hj he => ?_, fun κ hκ => ?_⟩
            · match i, hi with
              | 0, hi =>
                cases hi
                have e2 : (p.2.2.1 : Int) * j = p.2.2.1 * jn := by omega
                have e3 : (j : Int) = jn := Int.eq_of_mul_eq_mul_left (by omega) e2
                exact ⟨_, List.mem_cons_self, by rw [hκ0, e3]⟩
              | i + 1, hi =>
                obtain ⟨κ, k1, k2⟩ := i2 i x j hi hx hj he
                exact ⟨κ, List.mem_cons_of_mem _ k1, k2⟩
            · rcases List.mem_cons.mp hκ with rfl | hκ
              · exact ⟨0, p, jn, rfl, hq, by omega, by omega, hκ0⟩
              · obtain ⟨i, x, j, w⟩ := i3 κ hκ
                exact ⟨i + 1, x, j, w⟩
          · cases h
    · cases h
