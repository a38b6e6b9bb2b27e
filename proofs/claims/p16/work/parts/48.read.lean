/-! ===== a text that is read: hints ===== -/
noncomputable def clTab : List (Int × Int × Nat) := [(0, 31, 1), (32, 32, 0), (33, 33, 6), (34, 37, 1), (38, 38, 9), (39, 39, 1), (40, 40, 4), (41, 41, 5), (42, 42, 13), (43, 43, 12), (44, 44, 1), (45, 45, 11), (46, 46, 1), (47, 47, 13), (48, 57, 2), (58, 59, 1), (60, 62, 10), (63, 99, 1), (100, 100, 3), (101, 101, 1), (102, 102, 3), (103, 103, 1), (104, 104, 3), (105, 108, 1), (109, 110, 3), (111, 117, 1), (118, 118, 3), (119, 123, 1), (124, 124, 8), (125, 127, 1)]
theorem clTab_all : (clTab.all (fun e => decide (0 ≤ e.1) && decide (e.2.1 ≤ 127) && (List.range 128).all (fun n => !(decide (e.1 ≤ (n : Int)) && decide ((n : Int) ≤ e.2.1)) || Nat.beq (rdC (n : Int)) e.2.2))) = true := by decide +kernel
theorem clTab_ok : ∀ e ∈ clTab, ∀ v : Int, e.1 ≤ v → v ≤ e.2.1 → rdC v = e.2.2 := by
  intro e he v h1 h2
  have h := List.all_eq_true.mp clTab_all e he
  simp only [Bool.and_eq_true, decide_eq_true_eq] at h
  obtain ⟨⟨h3, h4⟩, h5⟩ := h
  obtain ⟨n, rfl⟩ : ∃ n : Nat, v = n := ⟨v.toNat, by omega⟩
  have h6 := List.all_eq_true.mp h5 n (List.mem_range.mpr (by omega))
  simp only [Bool.or_eq_true, Bool.not_eq_true', Bool.and_eq_false_iff, decide_eq_false_iff_not] at h6
  rcases h6 with h6 | h6
  · rcases h6 with h6 | h6 <;> exact absurd (by assumption) h6
  · exact Nat.eq_of_beq_eq_true h6
/-- what a character is that bounds tell -/
noncomputable def clF (tab : Tb) (fs : List Ln) (v : Ln) : Option Nat := clTab.findSome? (fun e => bif (bif le0 tab fs (subL (e.1, []) v) then le0 tab fs (subL v (e.2.1, [])) else false) then some e.2.2 else none)
theorem clF_ok {ρ : Nat → Int} {tab : Tb} {fs : List Ln} {v : Ln} {k : Nat} (ht : tOk ρ tab) (hf : fOk ρ fs) (h : clF tab fs v = some k) : rdC (ev ρ v) = k := by
  obtain ⟨e, m, f⟩ := List.exists_of_findSome?_eq_some h
  cases hb : (bif le0 tab fs (subL (e.1, []) v) then le0 tab fs (subL v (e.2.1, [])) else false) with
  | false => rw [hb] at f; cases f
  | true =>
    rw [hb] at f
    cases f
    obtain ⟨b1, b2⟩ := cand hb
    have e1 := le0_ok ht hf b1
    have e2 := le0_ok ht hf b2
    rw [ev_sub] at e1 e2
    have k1 : ev ρ ((e.1, []) : Ln) = e.1 := Int.add_zero _
    have k2 : ev ρ ((e.2.1, []) : Ln) = e.2.1 := Int.add_zero _
    rw [k1] at e1
    rw [k2] at e2
    exact clTab_ok e m _ (by omega) (by omega)
/-- behind one character: reached, or a fault -/
noncomputable def nxS (tab : Tb) (fs : List Ln) (k : Nat) (i : Ln) (w d : Nat) (b c : Ln) : Option ((Ln × Nat × Nat × Ln × Ln) ⊕ Ln) :=
  bif Nat.beq k 0 then some (.inl (pluL i 1, w, d, b, c))
  else bif Nat.beq w 1 then
    (bif (bif Nat.beq k 5 then Nat.blt 0 d else false) then none
    else bif Nat.beq (rdT k) 0 then some (.inr (pluL (sclL 10 i) 1))
    else bif Nat.beq (rdT k) 3 then (bif eqL tab fs c (kL 1) then some (.inr (pluL (sclL 10 i) 1)) else bif eqL tab fs c (kL 0) then some (.inl (pluL i 1, 0, d, b, kL 1)) else none)
    else bif Nat.blt (rdT k) 3 then some (.inl (pluL i 1, 0, d, b, kL 0)) else some (.inl (pluL i 1, 0, d, b, c)))
  else bif Nat.beq w 0 then
    (bif Nat.beq k 2 then none
    else bif Nat.beq k 3 then some (.inl (pluL i 1, 1, d, b, c))
    else bif Nat.beq k 4 then (bif Nat.ble 8 d then some (.inr (pluL (sclL 10 i) 3)) else some (.inl (pluL i 1, 0, Nat.succ d, addL (sclL 2 b) c, kL 0)))
    else bif (bif Nat.beq k 6 then true else Nat.beq k 11) then some (.inl (pluL i 1, 0, d, b, c))
    else some (.inr (pluL (sclL 10 i) 1)))
  else none
theorem wRe_nat {n t i w d b c : Int} (h : wRe n t i w d b c) : ∃ i' w' d' b' c' : Nat, i = i' ∧ w = w' ∧ d = d' ∧ b = b' ∧ c = c' := by
  obtain ⟨cs, ⟨i', w', d', b', c'⟩, _, _, e1, e2, e3, e4, e5⟩ := h
  exact ⟨i', w', d', b', c', e1, e2, e3, e4, e5⟩
theorem ev_ki {ρ : Nat → Int} {k : Nat} : ev ρ (kL (.ofNat k)) = (k : Int) := ev_k ρ k
theorem nxS_ok {ρ : Nat → Int} {tab : Tb} {fs : List Ln} {k w d : Nat} {n t v : Int} {i b c : Ln} {r : (Ln × Nat × Nat × Ln × Ln) ⊕ Ln} (ht : tOk ρ tab) (hf : fOk ρ fs) (hk : rdC v = k) (h : nxS tab fs k i w d b c = some r) (hr : wRe n t (ev ρ i) w d (ev ρ b) (ev ρ c)) (hc : wCh n t (ev ρ i) v) : (∀ i' w' d' b' c', r = .inl (i', w', d', b', c') → wRe n t (ev ρ i') w' d' (ev ρ b') (ev ρ c')) ∧ (∀ f, r = .inr f → wFa n t (ev ρ f)) := by
  obtain ⟨i0, -, -, b0, c0, ei, -, -, eb, ec⟩ := wRe_nat hr
  rw [ei, eb, ec] at hr
  rw [ei] at hc
  have step : ∀ s : RdS, ¬ (w ≠ 1 ∧ k = 2) → rdNx k (i0, w, d, b0, c0) = .inl s → wRe n t s.1 s.2.1 s.2.2.1 s.2.2.2.1 s.2.2.2.2 := fun s hd e => wRe_tok hr hc (by rw [hk]; exact hd) (by rw [hk]; exact e)
  have fail : ∀ f : Int, ¬ (w ≠ 1 ∧ k = 2) → rdNx k (i0, w, d, b0, c0) = .inr f → wFa n t f := fun f hd e => wFa_tok hr hc (by rw [hk]; exact hd) (by rw [hk]; exact e)
  have ei1 : ev ρ (pluL i 1) = ((i0 + 1 : Nat) : Int) := by rw [ev_plu, ei]; rfl
  have ef1 : ev ρ (pluL (sclL 10 i) 1) = 10 * (i0 : Int) + 1 := by rw [ev_plu, ev_scl, ei]
  have ef3 : ev ρ (pluL (sclL 10 i) 3) = 10 * (i0 : Int) + 3 := by rw [ev_plu, ev_scl, ei]
  have nb : ∀ {a b : Nat}, Nat.beq a b = false → a ≠ b := fun h e => by subst e; rw [Nat.beq_refl] at h; cases h
  unfold nxS at h
  cases z1 : Nat.beq k 0 with
  | true =>
    rw [z1, cond_true] at h
    have k1 : k = 0 := Nat.eq_of_beq_eq_true z1
    cases h
    refine ⟨fun i' w' d' b' c' e => ?_, fun f e => nomatch e⟩
    cases e
    rw [ei1, eb, ec]
    exact step (i0 + 1, w, d, b0, c0) (by omega) (by simp only [rdNx]; rw [if_pos k1])
  | false =>
    rw [z1, cond_false] at h
    have k1 := nb z1
    cases zw : Nat.beq w 1 with
    | true =>
      rw [zw, cond_true] at h
      have w1 : w = 1 := Nat.eq_of_beq_eq_true zw
      cases z5 : (bif Nat.beq k 5 then Nat.blt 0 d else false) with
      | true => rw [z5, cond_true] at h; cases h
      | false =>
        rw [z5, cond_false] at h
        have k5 : ¬ (k = 5 ∧ 0 < d) := fun ⟨q1, q2⟩ => by
          rw [q1, show Nat.beq 5 5 = true from rfl, cond_true] at z5
          rw [blt_iff.mpr q2] at z5; cases z5
        cases z0 : Nat.beq (rdT k) 0 with
        | true =>
          rw [z0, cond_true] at h
          have t0 := Nat.eq_of_beq_eq_true z0
          cases h
          refine ⟨fun i' w' d' b' c' e => (nomatch e), fun f e => ?_⟩
          cases e
          rw [ef1]
          exact fail _ (by omega) (by simp only [rdNx]; rw [if_neg k1, if_pos w1, if_neg k5, if_pos (Or.inl t0)])
        | false =>
          rw [z0, cond_false] at h
          have t0 := nb z0
          cases z3 : Nat.beq (rdT k) 3 with
          | true =>
            rw [z3, cond_true] at h
            have t3 := Nat.eq_of_beq_eq_true z3
            cases y1 : eqL tab fs c (kL 1) with
            | true =>
              rw [y1, cond_true] at h
              have c1 : c0 = 1 := by have := eqL_ok ht hf y1; rw [ec, show ev ρ (kL 1) = 1 from ev_k ρ 1] at this; omega
              cases h
              refine ⟨fun i' w' d' b' c' e => (nomatch e), fun f e => ?_⟩
              cases e
              rw [ef1]
              exact fail _ (by omega) (by simp only [rdNx]; rw [if_neg k1, if_pos w1, if_neg k5, if_pos (Or.inr ⟨t3, c1⟩)])
            | false =>
              rw [y1, cond_false] at h
              cases y0 : eqL tab fs c (kL 0) with
              | false => rw [y0, cond_false] at h; cases h
              | true =>
                rw [y0, cond_true] at h
                have c1 : c0 = 0 := by have := eqL_ok ht hf y0; rw [ec, show ev ρ (kL 0) = 0 from ev_k ρ 0] at this; omega
                cases h
                refine ⟨fun i' w' d' b' c' e => ?_, fun f e => nomatch e⟩
                cases e
                rw [ei1, eb, show ev ρ (kL 1) = ((1 : Nat) : Int) from ev_k ρ 1]
                exact step (i0 + 1, 0, d, b0, 1) (by omega) (by simp only [rdNx]; rw [if_neg k1, if_pos w1, if_neg k5, if_neg (by omega), if_pos t3])
          | false =>
            rw [z3, cond_false] at h
            have t3 := nb z3
            cases yl : Nat.blt (rdT k) 3 with
            | true =>
              rw [yl, cond_true] at h
              have tl := blt_iff.mp yl
              cases h
              refine ⟨fun i' w' d' b' c' e => ?_, fun f e => nomatch e⟩
              cases e
              rw [ei1, eb, show ev ρ (kL 0) = ((0 : Nat) : Int) from ev_k ρ 0]
              exact step (i0 + 1, 0, d, b0, 0) (by omega) (by simp only [rdNx]; rw [if_neg k1, if_pos w1, if_neg k5, if_neg (by omega), if_neg t3, if_pos tl])
            | false =>
              rw [yl, cond_false] at h
              have tl : ¬ rdT k < 3 := fun q => by rw [blt_iff.mpr q] at yl; cases yl
              cases h
              refine ⟨fun i' w' d' b' c' e => ?_, fun f e => nomatch e⟩
              cases e
              rw [ei1, eb, ec]
              exact step (i0 + 1, 0, d, b0, c0) (by omega) (by simp only [rdNx]; rw [if_neg k1, if_pos w1, if_neg k5, if_neg (by omega), if_neg t3, if_neg tl])
    | false =>
      rw [zw, cond_false] at h
      have w1 := nb zw
      cases zv : Nat.beq w 0 with
      | false => rw [zv, cond_false] at h; cases h
      | true =>
        rw [zv, cond_true] at h
        cases z2 : Nat.beq k 2 with
        | true => rw [z2, cond_true] at h; cases h
        | false =>
          rw [z2, cond_false] at h
          have k2 := nb z2
          have hd : ¬ (w ≠ 1 ∧ k = 2) := fun q => k2 q.2
          cases z3 : Nat.beq k 3 with
          | true =>
            rw [z3, cond_true] at h
            have k3 := Nat.eq_of_beq_eq_true z3
            cases h
            refine ⟨fun i' w' d' b' c' e => ?_, fun f e => nomatch e⟩
            cases e
            rw [ei1, eb, ec]
            exact step (i0 + 1, 1, d, b0, c0) hd (by simp only [rdNx]; rw [if_neg k1, if_neg w1, if_pos k3])
          | false =>
            rw [z3, cond_false] at h
            have k3 := nb z3
            cases z4 : Nat.beq k 4 with
            | true =>
              rw [z4, cond_true] at h
              have k4 := Nat.eq_of_beq_eq_true z4
              cases y8 : Nat.ble 8 d with
              | true =>
                rw [y8, cond_true] at h
                have d8 := Nat.le_of_ble_eq_true y8
                cases h
                refine ⟨fun i' w' d' b' c' e => (nomatch e), fun f e => ?_⟩
                cases e
                rw [ef3]
                exact fail _ hd (by simp only [rdNx]; rw [if_neg k1, if_neg w1, if_neg k3, if_pos k4, if_pos d8])
              | false =>
                rw [y8, cond_false] at h
                have d8 : ¬ 8 ≤ d := fun q => by rw [Nat.ble_eq_true_of_le q] at y8; cases y8
                cases h
                refine ⟨fun i' w' d' b' c' e => ?_, fun f e => nomatch e⟩
                cases e
                rw [ei1, show ev ρ (addL (sclL 2 b) c) = ((2 * b0 + c0 : Nat) : Int) from by rw [ev_add, ev_scl, eb, ec]; omega, show ev ρ (kL 0) = ((0 : Nat) : Int) from ev_k ρ 0]
                exact step (i0 + 1, 0, d + 1, 2 * b0 + c0, 0) hd (by simp only [rdNx]; rw [if_neg k1, if_neg w1, if_neg k3, if_pos k4, if_neg d8])
            | false =>
              rw [z4, cond_false] at h
              have k4 := nb z4
              cases z6 : (bif Nat.beq k 6 then true else Nat.beq k 11) with
              | true =>
                rw [z6, cond_true] at h
                have k6 : k = 6 ∨ k = 11 := by
                  cases q : Nat.beq k 6 with
                  | true => exact Or.inl (Nat.eq_of_beq_eq_true q)
                  | false => rw [q, cond_false] at z6; exact Or.inr (Nat.eq_of_beq_eq_true z6)
                have w0 : w = 0 := Nat.eq_of_beq_eq_true zv
                cases h
                refine ⟨fun i' w' d' b' c' e => ?_, fun f e => nomatch e⟩
                cases e
                rw [ei1, eb, ec]
                exact step (i0 + 1, 0, d, b0, c0) hd (by simp only [rdNx]; rw [if_neg k1, if_neg w1, if_neg k3, if_neg k4, if_pos k6])
              | false =>
                rw [z6, cond_false] at h
                have k6 : ¬ (k = 6 ∨ k = 11) := fun q => by
                  rcases q with rfl | rfl
                  · cases z6
                  · cases z6
                cases h
                refine ⟨fun i' w' d' b' c' e => (nomatch e), fun f e => ?_⟩
                cases e
                rw [ef1]
                exact fail _ hd (by simp only [rdNx]; rw [if_neg k1, if_neg w1, if_neg k3, if_neg k4, if_neg k6])
/-- what is reached -/
noncomputable def f28 (p : PD) : Option (Ln × Ln × Ln × Nat × Nat × Ln × Ln) := bif Nat.beq p.1 28 then (match p.2.1, p.2.2 with
  | [], [n, t, i, (.ofNat w, []), (.ofNat d, []), b, c] => some (n, t, i, w, d, b, c)
  | _, _ => none) else none
theorem f28_ok {ρ : Nat → Int} {cσ : SH} {pr : List PD} {p : PD} {n t i b c : Ln} {w d : Nat} (hp : prOk PPk ρ cσ pr) (hm : p ∈ pr) (h : f28 p = some (n, t, i, w, d, b, c)) : wRe (ev ρ n) (ev ρ t) (ev ρ i) w d (ev ρ b) (ev ρ c) := by
  obtain ⟨k, ls, ns⟩ := p
  unfold f28 at h
  cases hk : Nat.beq k 28 with
  | false => rw [hk] at h; cases h
  | true =>
    rw [hk, cond_true] at h
    have := Nat.eq_of_beq_eq_true hk
    subst this
    split at h
    · rename_i n' t' i' w' d' b' c' e1 e2
      try dsimp only at e1 e2
      subst e1; subst e2
      cases h
      have h3 : wRe (ev ρ n) (ev ρ t) (ev ρ i) (ev ρ ((.ofNat w, []) : Ln)) (ev ρ ((.ofNat d, []) : Ln)) (ev ρ b) (ev ρ c) := hp _ hm
      rw [show ev ρ ((.ofNat w, []) : Ln) = (w : Int) from ev_k ρ w, show ev ρ ((.ofNat d, []) : Ln) = (d : Int) from ev_k ρ d] at h3
      exact h3
    · cases h
/-- the character at a place -/
noncomputable def fCh (tab : Tb) (fs : List Ln) (n t i : Ln) (p : PD) : Option Ln := bif Nat.beq p.1 28 then (match p.2.1, p.2.2 with
  | [], [n', t', i', v] => bif (bif eqL tab fs n n' then (bif eqL tab fs t t' then eqL tab fs i i' else false) else false) then some v else none
  | _, _ => none) else none
theorem fCh_ok {ρ : Nat → Int} {cσ : SH} {pr : List PD} {tab : Tb} {fs : List Ln} {p : PD} {n t i v : Ln} (ht : tOk ρ tab) (hf : fOk ρ fs) (hp : prOk PPk ρ cσ pr) (hm : p ∈ pr) (h : fCh tab fs n t i p = some v) : wCh (ev ρ n) (ev ρ t) (ev ρ i) (ev ρ v) := by
  obtain ⟨k, ls, ns⟩ := p
  unfold fCh at h
  cases hk : Nat.beq k 28 with
  | false => rw [hk] at h; cases h
  | true =>
    rw [hk, cond_true] at h
    have := Nat.eq_of_beq_eq_true hk
    subst this
    split at h
    · rename_i n' t' i' v' e1 e2
      try dsimp only at e1 e2
      subst e1; subst e2
      cases hb : (bif eqL tab fs n n' then (bif eqL tab fs t t' then eqL tab fs i i' else false) else false) with
      | false => rw [hb] at h; cases h
      | true =>
        rw [hb] at h
        cases h
        obtain ⟨b1, hb⟩ := cand hb
        obtain ⟨b2, b3⟩ := cand hb
        have h3 : wCh (ev ρ n') (ev ρ t') (ev ρ i') (ev ρ v) := hp _ hm
        rw [eqL_ok ht hf b1, eqL_ok ht hf b2, eqL_ok ht hf b3]
        exact h3
    · cases h
/-- what the character at a place is -/
noncomputable def fKlas (tab : Tb) (fs : List Ln) (n t i : Ln) (p : PD) : Option Nat := bif Nat.beq p.1 29 then (match p.2.1, p.2.2 with
  | [], [n', t', i', (.ofNat k, [])] => bif (bif eqL tab fs n n' then (bif eqL tab fs t t' then eqL tab fs i i' else false) else false) then some k else none
  | _, _ => none) else none
theorem fKlas_ok {ρ : Nat → Int} {cσ : SH} {pr : List PD} {tab : Tb} {fs : List Ln} {p : PD} {n t i : Ln} {k : Nat} (ht : tOk ρ tab) (hf : fOk ρ fs) (hp : prOk PPk ρ cσ pr) (hm : p ∈ pr) (h : fKlas tab fs n t i p = some k) : wCl (ev ρ n) (ev ρ t) (ev ρ i) k := by
  obtain ⟨q, ls, ns⟩ := p
  unfold fKlas at h
  cases hk : Nat.beq q 29 with
  | false => rw [hk] at h; cases h
  | true =>
    rw [hk, cond_true] at h
    have := Nat.eq_of_beq_eq_true hk
    subst this
    split at h
    · rename_i n' t' i' k' e1 e2
      try dsimp only at e1 e2
      subst e1; subst e2
      cases hb : (bif eqL tab fs n n' then (bif eqL tab fs t t' then eqL tab fs i i' else false) else false) with
      | false => rw [hb] at h; cases h
      | true =>
        rw [hb] at h
        cases h
        obtain ⟨b1, hb⟩ := cand hb
        obtain ⟨b2, b3⟩ := cand hb
        have h3 : wCl (ev ρ n') (ev ρ t') (ev ρ i') (ev ρ ((.ofNat k, []) : Ln)) := hp _ hm
        rw [show ev ρ ((.ofNat k, []) : Ln) = (k : Int) from ev_k ρ k] at h3
        rw [eqL_ok ht hf b1, eqL_ok ht hf b2, eqL_ok ht hf b3]
        exact h3
    · cases h
noncomputable def noRe (p : PD) : Bool := bif Nat.beq p.1 28 then (match p.2.2 with
  | [_, _, _, _, _, _, _] => false
  | _ => true) else true
/-- one character more is read -/
noncomputable def hTok (P : Nat) : HF := fun pc _ A pr nx tab fs => bif Nat.beq pc P then (match pr.findSome? f28 with
  | some (n, t, i, w, d, b, c) => (match pr.findSome? (fKlas tab fs n t i) with
    | some k => bif Nat.beq k 7 then none else (match nxS tab fs k i w d b c with
      | some (.inl (i', w', d', b', c')) => some [(A, (28, [], [n, t, i', (.ofNat w', []), (.ofNat d', []), b', c']) :: pr.filter noRe, nx, tab, fs)]
      | some (.inr f) => some [(A, (28, [], [n, t, f]) :: pr, nx, tab, fs)]
      | none => none)
    | none => none)
  | none => none) else none
theorem hTok_ok (P : Nat) : HFOk PPk (hTok P) := by
  intro pc lv A pr nx tab fs L ρ clv cσ h hr hp
  unfold hTok at h
  cases z : Nat.beq pc P with
  | false => rw [z] at h; cases h
  | true =>
    rw [z, cond_true] at h
    split at h
    · rename_i n t i w d b c h1
      split at h
      · rename_i k h2
        obtain ⟨p1, m1, f1⟩ := List.exists_of_findSome?_eq_some h1
        obtain ⟨p2, m2, f2⟩ := List.exists_of_findSome?_eq_some h2
        cases z13 : Nat.beq k 7 with
        | true => rw [z13] at h; cases h
        | false =>
          rw [z13, cond_false] at h
          have k13 : (k : Int) ≠ 7 := fun e => by
            have e' : k = 7 := by omega
            rw [e'] at z13; cases z13
          split at h
          · rename_i i' w' d' b' c' h4
            cases h
            refine ⟨_, List.mem_cons_self, hGood0 (fun ρ' ha => ⟨(hr ρ' ha).1, (hr ρ' ha).2.1, (hr ρ' ha).2.2.2⟩) (fun ρ' ha => List.forall_mem_cons.mpr ⟨?_, fun p hq => hp ρ' ha p (List.mem_filter.mp hq).1⟩)⟩
            obtain ⟨u1, u2, -⟩ := hr ρ' ha
            show wRe (ev ρ' n) (ev ρ' t) (ev ρ' i') (ev ρ' ((.ofNat w', []) : Ln)) (ev ρ' ((.ofNat d', []) : Ln)) (ev ρ' b') (ev ρ' c')
            rw [show ev ρ' ((.ofNat w', []) : Ln) = (w' : Int) from ev_k ρ' w', show ev ρ' ((.ofNat d', []) : Ln) = (d' : Int) from ev_k ρ' d']
            obtain ⟨v, hv, ek⟩ := wCl_v (fKlas_ok u1 u2 (hp ρ' ha) m2 f2) k13
            exact (nxS_ok u1 u2 (by omega) h4 (f28_ok (hp ρ' ha) m1 f1) hv).1 _ _ _ _ _ rfl
          · rename_i f h4
            cases h
            refine ⟨_, List.mem_cons_self, hGood0 (fun ρ' ha => ⟨(hr ρ' ha).1, (hr ρ' ha).2.1, (hr ρ' ha).2.2.2⟩) (fun ρ' ha => List.forall_mem_cons.mpr ⟨?_, hp ρ' ha⟩)⟩
            obtain ⟨u1, u2, -⟩ := hr ρ' ha
            show wFa (ev ρ' n) (ev ρ' t) (ev ρ' f)
            obtain ⟨v, hv, ek⟩ := wCl_v (fKlas_ok u1 u2 (hp ρ' ha) m2 f2) k13
            exact (nxS_ok u1 u2 (by omega) h4 (f28_ok (hp ρ' ha) m1 f1) hv).2 _ rfl
          · cases h
      · cases h
    · cases h
/-- bounds that no character of this class keeps -/
noncomputable def exF (tab : Tb) (fs : List Ln) (v : Ln) (k : Nat) : Bool := clTab.all (fun e => bif Nat.beq e.2.2 k then (bif le0 tab fs (subL (pluL v 1) (e.1, [])) then true else le0 tab fs (subL (e.2.1 + 1, []) v)) else true)
theorem clTab_cov : (List.range 128).all (fun n => clTab.any (fun e => decide (e.1 ≤ (n : Int)) && decide ((n : Int) ≤ e.2.1) && Nat.beq e.2.2 (rdC (n : Int)))) = true := by decide +kernel
theorem exF_ok {ρ : Nat → Int} {tab : Tb} {fs : List Ln} {v : Ln} {k : Nat} (ht : tOk ρ tab) (hf : fOk ρ fs) (h : exF tab fs v k = true) (h0 : 0 ≤ ev ρ v) (h1 : ev ρ v ≤ 127) : rdC (ev ρ v) ≠ k := by
  intro hk
  obtain ⟨n, hn⟩ : ∃ n : Nat, ev ρ v = n := ⟨(ev ρ v).toNat, by omega⟩
  have h2 := List.all_eq_true.mp clTab_cov n (List.mem_range.mpr (by omega))
  obtain ⟨e, he, h3⟩ := List.any_eq_true.mp h2
  simp only [Bool.and_eq_true, decide_eq_true_eq] at h3
  obtain ⟨⟨h4, h5⟩, h6⟩ := h3
  have h7 := List.all_eq_true.mp h e he
  rw [← hn, hk] at h6
  rw [h6, cond_true] at h7
  cases b1 : le0 tab fs (subL (pluL v 1) (e.1, [])) with
  | true =>
    have e1 := le0_ok ht hf b1
    rw [ev_sub, ev_plu, show ev ρ ((e.1, []) : Ln) = e.1 from Int.add_zero _] at e1
    omega
  | false =>
    rw [b1, cond_false] at h7
    have e1 := le0_ok ht hf h7
    rw [ev_sub, show ev ρ ((e.2.1 + 1, []) : Ln) = e.2.1 + 1 from Int.add_zero _] at e1
    omega
/-- a text's word -/
noncomputable def f10 (q : Nat) (p : PD) : Option (Ln × Ln) := bif Nat.beq p.1 10 then (match p.2.1, p.2.2 with
  | [q'], [_, n, t, _, _] => bif Nat.beq q q' then some (n, t) else none
  | _, _ => none) else none
theorem f10_ok {ρ : Nat → Int} {cσ : SH} {pr : List PD} {p : PD} {q : Nat} {n t : Ln} (hp : prOk PPk ρ cσ pr) (hm : p ∈ pr) (h : f10 q p = some (n, t)) : ∃ cs, okTx cs (ev ρ n) (ev ρ t) := by
  obtain ⟨k, ls, ns⟩ := p
  unfold f10 at h
  cases hk : Nat.beq k 10 with
  | false => rw [hk] at h; cases h
  | true =>
    rw [hk, cond_true] at h
    have := Nat.eq_of_beq_eq_true hk
    subst this
    split at h
    · rename_i q' o n' t' y z e1 e2
      try dsimp only at e1 e2
      subst e1; subst e2
      cases hb : Nat.beq q q' with
      | false => rw [hb] at h; cases h
      | true =>
        rw [hb] at h
        cases h
        have h3 : 10 = 10 ∧ okTr (arrI (cσ.getD q' (.inl (0, [])))) (ev ρ o) (ev ρ n) (ev ρ t) := hp _ hm
        obtain ⟨_, p, m, _, _, _, _, hx⟩ := h3
        exact ⟨_, hx⟩
    · cases h
/-- reading begins -/
noncomputable def hBeg (P q : Nat) : HF := fun pc _ A pr nx tab fs => bif Nat.beq pc P then (match pr.findSome? (f10 q) with
  | some (n, t) => some [(A, (28, [], [n, t, kL 0, (.ofNat 0, []), (.ofNat 0, []), kL 0, kL 0]) :: pr.filter noRe, nx, tab, fs)]
  | none => none) else none
theorem hBeg_ok (P q : Nat) : HFOk PPk (hBeg P q) := by
  intro pc lv A pr nx tab fs L ρ clv cσ h hr hp
  unfold hBeg at h
  cases z : Nat.beq pc P with
  | false => rw [z] at h; cases h
  | true =>
    rw [z, cond_true] at h
    split at h
    · rename_i n t h1
      obtain ⟨p1, m1, f1⟩ := List.exists_of_findSome?_eq_some h1
      cases h
      refine ⟨_, List.mem_cons_self, hGood0 (fun ρ' ha => ⟨(hr ρ' ha).1, (hr ρ' ha).2.1, (hr ρ' ha).2.2.2⟩) (fun ρ' ha => List.forall_mem_cons.mpr ⟨?_, fun p hq => hp ρ' ha p (List.mem_filter.mp hq).1⟩)⟩
      obtain ⟨cs, hx⟩ := f10_ok (hp ρ' ha) m1 f1
      show wRe (ev ρ' n) (ev ρ' t) (ev ρ' (kL 0)) (ev ρ' (kL 0)) (ev ρ' (kL 0)) (ev ρ' (kL 0)) (ev ρ' (kL 0))
      rw [show ev ρ' (kL 0) = 0 from ev_k ρ' 0]
      exact wRe_0 hx
    · cases h
/-- the text ends -/
noncomputable def hEnd (P fl : Nat) : HF := fun pc _ A pr nx tab fs => bif Nat.beq pc P then (match pr.findSome? f28 with
  | some (n, t, i, w, d, _, _) => bif eqL tab fs i n then some [(A, (28, [], [n, t, bif (bif Nat.beq w 1 then Nat.beq d 0 else false) then kL (-1) else pluL (sclL 10 (bif Nat.beq fl 1 then n else i)) 1]) :: pr, nx, tab, fs)] else none
  | none => none) else none
theorem hEnd_ok (P fl : Nat) : HFOk PPk (hEnd P fl) := by
  intro pc lv A pr nx tab fs L ρ clv cσ h hr hp
  unfold hEnd at h
  cases z : Nat.beq pc P with
  | false => rw [z] at h; cases h
  | true =>
    rw [z, cond_true] at h
    split at h
    · rename_i n t i w d b c h1
      obtain ⟨p1, m1, f1⟩ := List.exists_of_findSome?_eq_some h1
      cases hb : eqL tab fs i n with
      | false => rw [hb] at h; cases h
      | true =>
        rw [hb] at h
        cases h
        refine ⟨_, List.mem_cons_self, hGood0 (fun ρ' ha => ⟨(hr ρ' ha).1, (hr ρ' ha).2.1, (hr ρ' ha).2.2.2⟩) (fun ρ' ha => List.forall_mem_cons.mpr ⟨?_, hp ρ' ha⟩)⟩
        obtain ⟨u1, u2, -⟩ := hr ρ' ha
        have h3 := f28_ok (hp ρ' ha) m1 f1
        rw [eqL_ok u1 u2 hb] at h3
        obtain ⟨_, -, -, b0, c0, -, -, -, eb, ec⟩ := wRe_nat h3
        rw [eb, ec] at h3
        have h4 := wFa_end h3
        have ein : ev ρ' (bif Nat.beq fl 1 then n else i) = ev ρ' n := by
          cases Nat.beq fl 1 with
          | true => rfl
          | false => exact eqL_ok u1 u2 hb
        show wFa (ev ρ' n) (ev ρ' t) (ev ρ' (bif (bif Nat.beq w 1 then Nat.beq d 0 else false) then kL (-1) else pluL (sclL 10 (bif Nat.beq fl 1 then n else i)) 1))
        cases hw : (bif Nat.beq w 1 then Nat.beq d 0 else false) with
        | true =>
          obtain ⟨g1, g2⟩ := cand hw
          rw [if_pos ⟨Nat.eq_of_beq_eq_true g1, Nat.eq_of_beq_eq_true g2⟩] at h4
          rw [cond_true, show ev ρ' (kL (-1)) = -1 from ev_k ρ' (-1)]
          exact h4
        | false =>
          rw [if_neg (fun q => by rw [q.1, q.2] at hw; cases hw)] at h4
          rw [cond_false, ev_plu, ev_scl, ein]
          exact h4
    · cases h
/-- two faults told of the same text -/
noncomputable def fFa (p : PD) : Option (Ln × Ln × Ln) := bif Nat.beq p.1 28 then (match p.2.1, p.2.2 with
  | [], [n, t, f] => some (n, t, f)
  | _, _ => none) else none
theorem fFa_ok {ρ : Nat → Int} {cσ : SH} {pr : List PD} {p : PD} {n t f : Ln} (hp : prOk PPk ρ cσ pr) (hm : p ∈ pr) (h : fFa p = some (n, t, f)) : wFa (ev ρ n) (ev ρ t) (ev ρ f) := by
  obtain ⟨k, ls, ns⟩ := p
  unfold fFa at h
  cases hk : Nat.beq k 28 with
  | false => rw [hk] at h; cases h
  | true =>
    rw [hk, cond_true] at h
    have := Nat.eq_of_beq_eq_true hk
    subst this
    split at h
    · rename_i n' t' f' e1 e2
      try dsimp only at e1 e2
      subst e1; subst e2
      cases h
      exact hp _ hm
    · cases h
noncomputable def fFa2 (tab : Tb) (fs : List Ln) (n t f : Ln) (p : PD) : Option Ln := match fFa p with
  | some (n', t', g) => bif (bif eqL tab fs n n' then eqL tab fs t t' else false) then (bif eqL tab fs f g then none else some g) else none
  | none => none
noncomputable def hFeq (P : Nat) : HF := fun pc _ A pr nx tab fs => bif Nat.beq pc P then (match pr.findSome? fFa with
  | some (n, t, f) => (match pr.findSome? (fFa2 tab fs n t f) with
    | some g => some [(A, pr, nx, tab, subL f g :: subL g f :: fs)]
    | none => none)
  | none => none) else none
theorem hFeq_ok (P : Nat) : HFOk PPk (hFeq P) := by
  intro pc lv A pr nx tab fs L ρ clv cσ h hr hp
  unfold hFeq at h
  cases z : Nat.beq pc P with
  | false => rw [z] at h; cases h
  | true =>
    rw [z, cond_true] at h
    split at h
    · rename_i n t f h1
      obtain ⟨p1, m1, f1⟩ := List.exists_of_findSome?_eq_some h1
      split at h
      · rename_i g h2
        obtain ⟨p2, m2, f2⟩ := List.exists_of_findSome?_eq_some h2
        cases h
        have key : ∀ ρ', agr2 nx ρ ρ' → ev ρ' f = ev ρ' g := fun ρ' ha => by
          obtain ⟨u1, u2, -⟩ := hr ρ' ha
          unfold fFa2 at f2
          split at f2
          · rename_i n' t' g' h3
            cases hb : (bif eqL tab fs n n' then eqL tab fs t t' else false) with
            | false => rw [hb] at f2; cases f2
            | true =>
              rw [hb, cond_true] at f2
              cases hc : eqL tab fs f g' with
              | true => rw [hc] at f2; cases f2
              | false =>
                rw [hc, cond_false] at f2
                cases f2
                obtain ⟨b1, b2⟩ := cand hb
                have w1 := fFa_ok (hp ρ' ha) m1 f1
                have w2 := fFa_ok (hp ρ' ha) m2 h3
                rw [eqL_ok u1 u2 b1, eqL_ok u1 u2 b2] at w1
                exact wFa_inj w1 w2
          · cases f2
        refine ⟨_, List.mem_cons_self, hGood0 (fun ρ' ha => ⟨(hr ρ' ha).1, fun q hq => ?_, (hr ρ' ha).2.2.2⟩) (fun ρ' ha => hp ρ' ha)⟩
        rcases List.mem_cons.mp hq with rfl | hq
        · rw [ev_sub, key ρ' ha]; omega
        · rcases List.mem_cons.mp hq with rfl | hq
          · rw [ev_sub, key ρ' ha]; omega
          · exact (hr ρ' ha).2.1 q hq
      · cases h
    · cases h
/-- half of what is even in a form -/
noncomputable def halfE (b : Ln) : Ln := (b.1 / 2, b.2.filterMap (fun q => bif decide (q.2 % 2 = 0) then some (q.1, q.2 / 2) else none))
/-- the outer levels' bits that a word of waiting signs tells -/
noncomputable def fWb (p : PD) : Option Ln := bif Nat.beq p.1 29 then (match p.2.1, p.2.2 with
  | [_], [_, _, b, _, _] => some b
  | _, _ => none) else none
/-- x with 0 or 1 over it -/
noncomputable def popX (tab : Tb) (fs : List Ln) (b : Ln) (x : Ln) : Option Ln := bif (bif le0 tab fs (sclL (-1) (subL b (sclL 2 x))) then le0 tab fs (pluL (subL b (sclL 2 x)) (-1)) else false) then some x else none
theorem popX_ok {ρ : Nat → Int} {tab : Tb} {fs : List Ln} {b x y : Ln} {B : Nat} (ht : tOk ρ tab) (hf : fOk ρ fs) (hb : ev ρ b = B) (h : popX tab fs b x = some y) : x = y ∧ ev ρ x = ((B / 2 : Nat) : Int) ∧ ev ρ (subL b (sclL 2 x)) = ((B % 2 : Nat) : Int) := by
  unfold popX at h
  cases hc : (bif le0 tab fs (sclL (-1) (subL b (sclL 2 x))) then le0 tab fs (pluL (subL b (sclL 2 x)) (-1)) else false) with
  | false => rw [hc] at h; cases h
  | true =>
    rw [hc] at h
    cases h
    obtain ⟨g1, g2⟩ := cand hc
    have e1 := le0_ok ht hf g1
    have e2 := le0_ok ht hf g2
    rw [ev_scl, ev_sub, ev_scl] at e1
    rw [ev_plu, ev_sub, ev_scl] at e2
    refine ⟨rfl, ?_, ?_⟩
    · omega
    · rw [ev_sub, ev_scl]; omega
/-- a bracket closes -/
noncomputable def hPop (P : Nat) : HF := fun pc _ A pr nx tab fs => bif Nat.beq pc P then (match pr.findSome? f28 with
  | some (n, t, i, w, d, b, _) => (match pr.findSome? (fKlas tab fs n t i), (halfE b :: pr.filterMap fWb).findSome? (popX tab fs b) with
    | some k, some x => bif (bif Nat.beq k 5 then (bif Nat.beq w 1 then Nat.blt 0 d else false) else false) then some [(A, (28, [], [n, t, pluL i 1, (.ofNat 1, []), (.ofNat (Nat.pred d), []), x, subL b (sclL 2 x)]) :: pr.filter noRe, nx, tab, fs)] else none
    | _, _ => none)
  | none => none) else none
theorem hPop_ok (P : Nat) : HFOk PPk (hPop P) := by
  intro pc lv A pr nx tab fs L ρ clv cσ h hr hp
  unfold hPop at h
  cases z : Nat.beq pc P with
  | false => rw [z] at h; cases h
  | true =>
    rw [z, cond_true] at h
    split at h
    · rename_i n t i w d b c h1
      obtain ⟨p1, m1, f1⟩ := List.exists_of_findSome?_eq_some h1
      split at h
      · rename_i k x h2 h3
        obtain ⟨p2, m2, f2⟩ := List.exists_of_findSome?_eq_some h2
        obtain ⟨y, -, f3⟩ := List.exists_of_findSome?_eq_some h3
        cases hb : (bif Nat.beq k 5 then (bif Nat.beq w 1 then Nat.blt 0 d else false) else false) with
        | false => rw [hb] at h; cases h
        | true =>
          rw [hb] at h
          cases h
          obtain ⟨g1, hb⟩ := cand hb
          obtain ⟨g2, g3⟩ := cand hb
          have k5 := Nat.eq_of_beq_eq_true g1
          have w1 := Nat.eq_of_beq_eq_true g2
          have d0 := blt_iff.mp g3
          refine ⟨_, List.mem_cons_self, hGood0 (fun ρ' ha => ⟨(hr ρ' ha).1, (hr ρ' ha).2.1, (hr ρ' ha).2.2.2⟩) (fun ρ' ha => List.forall_mem_cons.mpr ⟨?_, fun p hq => hp ρ' ha p (List.mem_filter.mp hq).1⟩)⟩
          obtain ⟨u1, u2, -⟩ := hr ρ' ha
          have h4 := f28_ok (hp ρ' ha) m1 f1
          obtain ⟨i0, -, -, b0, c0, ei, -, -, eb, ec⟩ := wRe_nat h4
          obtain ⟨exy, ex, er⟩ := popX_ok u1 u2 eb f3
          subst exy
          have h5 := fKlas_ok u1 u2 (hp ρ' ha) m2 f2
          rw [ei, eb, ec] at h4
          rw [ei] at h5
          obtain ⟨v, hv, ek⟩ := wCl_v h5 (by omega)
          have kv : rdC v = 5 := by omega
          have h6 := wRe_tok (s := (i0 + 1, 1, d - 1, b0 / 2, b0 % 2)) h4 hv (by omega) (by simp only [rdNx]; rw [if_neg (by omega), if_pos w1, if_pos ⟨kv, d0⟩])
          show wRe (ev ρ' n) (ev ρ' t) (ev ρ' (pluL i 1)) (ev ρ' ((.ofNat 1, []) : Ln)) (ev ρ' ((.ofNat (Nat.pred d), []) : Ln)) (ev ρ' y) (ev ρ' (subL b (sclL 2 y)))
          rw [ex, er, show ev ρ' ((.ofNat 1, []) : Ln) = ((1 : Nat) : Int) from ev_k ρ' 1, show ev ρ' ((.ofNat (Nat.pred d), []) : Ln) = ((d - 1 : Nat) : Int) from ev_k ρ' _, ev_plu, ei]
          exact h6
      · cases h
    · cases h
/-- so many digits from a place on -/
noncomputable def fDg (tab : Tb) (fs : List Ln) (n t f : Ln) (p : PD) : Option Ln := bif Nat.beq p.1 29 then (match p.2.1, p.2.2 with
  | [], [n', t', f', k, _] => bif (bif eqL tab fs n n' then (bif eqL tab fs t t' then eqL tab fs f f' else false) else false) then some k else none
  | _, _ => none) else none
theorem fDg_ok {ρ : Nat → Int} {cσ : SH} {pr : List PD} {tab : Tb} {fs : List Ln} {p : PD} {n t f k : Ln} (ht : tOk ρ tab) (hf : fOk ρ fs) (hp : prOk PPk ρ cσ pr) (hm : p ∈ pr) (h : fDg tab fs n t f p = some k) : wDg (ev ρ n) (ev ρ t) (ev ρ f) (ev ρ k) := by
  obtain ⟨q, ls, ns⟩ := p
  unfold fDg at h
  cases hk : Nat.beq q 29 with
  | false => rw [hk] at h; cases h
  | true =>
    rw [hk, cond_true] at h
    have := Nat.eq_of_beq_eq_true hk
    subst this
    split at h
    · rename_i n' t' f' k' y e1 e2
      try dsimp only at e1 e2
      subst e1; subst e2
      cases hb : (bif eqL tab fs n n' then (bif eqL tab fs t t' then eqL tab fs f f' else false) else false) with
      | false => rw [hb] at h; cases h
      | true =>
        rw [hb] at h
        cases h
        obtain ⟨b1, hb⟩ := cand hb
        obtain ⟨b2, b3⟩ := cand hb
        have h3 : wDg (ev ρ n') (ev ρ t') (ev ρ f') (ev ρ k) := hp _ hm
        rw [eqL_ok ht hf b1, eqL_ok ht hf b2, eqL_ok ht hf b3]
        exact h3
    · cases h
noncomputable def noDg (p : PD) : Bool := bif Nat.beq p.1 29 then (match p.2.1, p.2.2 with
  | [], [_, _, _, _, _] => false
  | _, _ => true) else true
/-- the digits found so far, none at first -/
noncomputable def dgK (tab : Tb) (fs : List Ln) (pr : List PD) (n t f : Ln) : Ln := match pr.findSome? (fDg tab fs n t f) with
  | some k => k
  | none => kL 0
theorem dgK_ok {ρ : Nat → Int} {cσ : SH} {pr : List PD} {tab : Tb} {fs : List Ln} {n t f : Ln} {w d b c : Int} (ht : tOk ρ tab) (hf : fOk ρ fs) (hp : prOk PPk ρ cσ pr) (hr : wRe (ev ρ n) (ev ρ t) (ev ρ f) w d b c) (hl : ev ρ f ≤ ev ρ n) : wDg (ev ρ n) (ev ρ t) (ev ρ f) (ev ρ (dgK tab fs pr n t f)) := by
  unfold dgK
  split
  · rename_i k h
    obtain ⟨p1, m1, f1⟩ := List.exists_of_findSome?_eq_some h
    exact fDg_ok ht hf hp m1 f1
  · rw [show ev ρ (kL 0) = 0 from ev_k ρ 0]
    exact wDg_0 hr hl
/-- a digit more -/
noncomputable def hDgS (P : Nat) : HF := fun pc _ A pr nx tab fs => bif Nat.beq pc P then (match pr.findSome? f28 with
  | some (n, t, f, _, _, _, _) => (match pr.findSome? (fKlas tab fs n t (addL f (dgK tab fs pr n t f))) with
    | some k => bif (bif Nat.beq k 2 then le0 tab fs (subL f n) else false) then some [(A, (29, [], [n, t, f, pluL (dgK tab fs pr n t f) 1, kL 0]) :: pr.filter noDg, nx, tab, fs)] else none
    | none => none)
  | none => none) else none
theorem hDgS_ok (P : Nat) : HFOk PPk (hDgS P) := by
  intro pc lv A pr nx tab fs L ρ clv cσ h hr hp
  unfold hDgS at h
  cases z : Nat.beq pc P with
  | false => rw [z] at h; cases h
  | true =>
    rw [z, cond_true] at h
    split at h
    · rename_i n t f w d b c h1
      obtain ⟨p1, m1, f1⟩ := List.exists_of_findSome?_eq_some h1
      split at h
      · rename_i k h2
        obtain ⟨p2, m2, f2⟩ := List.exists_of_findSome?_eq_some h2
        cases hb : (bif Nat.beq k 2 then le0 tab fs (subL f n) else false) with
        | false => rw [hb] at h; cases h
        | true =>
          rw [hb] at h
          cases h
          obtain ⟨g1, g2⟩ := cand hb
          have k2 := Nat.eq_of_beq_eq_true g1
          refine ⟨_, List.mem_cons_self, hGood0 (fun ρ' ha => ⟨(hr ρ' ha).1, (hr ρ' ha).2.1, (hr ρ' ha).2.2.2⟩) (fun ρ' ha => List.forall_mem_cons.mpr ⟨?_, fun p hq => hp ρ' ha p (List.mem_filter.mp hq).1⟩)⟩
          obtain ⟨u1, u2, -⟩ := hr ρ' ha
          have e1 := le0_ok u1 u2 g2
          rw [ev_sub] at e1
          have g := dgK_ok u1 u2 (hp ρ' ha) (f28_ok (hp ρ' ha) m1 f1) (by omega)
          obtain ⟨v, hv, ek⟩ := wCl_v (fKlas_ok u1 u2 (hp ρ' ha) m2 f2) (by omega)
          rw [ev_add] at hv
          show wDg (ev ρ' n) (ev ρ' t) (ev ρ' f) (ev ρ' (pluL (dgK tab fs pr n t f) 1))
          rw [ev_plu]
          exact wDg_s g hv (by omega)
      · cases h
    · cases h
/-- a number whole, or too long -/
noncomputable def hDgE (P : Nat) : HF := fun pc _ A pr nx tab fs => bif Nat.beq pc P then (match pr.findSome? f28 with
  | some (n, t, f, 0, d, b, c) => (match pr.findSome? (fDg tab fs n t f) with
    | some k => bif eqL tab fs k (kL 7) then some [(A, (28, [], [n, t, pluL (sclL 10 f) 2]) :: pr, nx, tab, fs)] else
      bif (bif le0 tab fs (subL (kL 1) k) then le0 tab fs (subL k (kL 6)) else false) then (bif eqL tab fs (addL f k) n then some [(A, (28, [], [n, t, addL f k, (.ofNat 1, []), (.ofNat d, []), b, c]) :: (pr.filter noRe).filter noDg, nx, tab, fs)]
        else (match pr.findSome? (fKlas tab fs n t (addL f k)) with
          | some j => bif (bif Nat.beq j 2 then true else Nat.beq j 7) then none else some [(A, (28, [], [n, t, addL f k, (.ofNat 1, []), (.ofNat d, []), b, c]) :: (pr.filter noRe).filter noDg, nx, tab, fs)]
          | none => none)) else none
    | none => none)
  | _ => none) else none
theorem hDgE_ok (P : Nat) : HFOk PPk (hDgE P) := by
  intro pc lv A pr nx tab fs L ρ clv cσ h hr hp
  unfold hDgE at h
  cases z : Nat.beq pc P with
  | false => rw [z] at h; cases h
  | true =>
    rw [z, cond_true] at h
    split at h
    · rename_i n t f d b c h1
      obtain ⟨p1, m1, f1⟩ := List.exists_of_findSome?_eq_some h1
      split at h
      · rename_i k h2
        obtain ⟨p2, m2, f2⟩ := List.exists_of_findSome?_eq_some h2
        have base : ∀ ρ', agr2 nx ρ ρ' → ∃ b0 c0 : Nat, ev ρ' b = b0 ∧ ev ρ' c = c0 ∧ wRe (ev ρ' n) (ev ρ' t) (ev ρ' f) 0 d b0 c0 ∧ wDg (ev ρ' n) (ev ρ' t) (ev ρ' f) (ev ρ' k) := fun ρ' ha => by
          obtain ⟨u1, u2, -⟩ := hr ρ' ha
          have h4 := f28_ok (hp ρ' ha) m1 f1
          obtain ⟨_, -, -, b0, c0, -, -, -, eb, ec⟩ := wRe_nat h4
          rw [eb, ec] at h4
          exact ⟨b0, c0, eb, ec, h4, fDg_ok u1 u2 (hp ρ' ha) m2 f2⟩
        have fin : ∀ ρ', agr2 nx ρ ρ' → 1 ≤ ev ρ' k → ev ρ' k ≤ 6 → (ev ρ' f + ev ρ' k = ev ρ' n ∨ ∃ v, wCh (ev ρ' n) (ev ρ' t) (ev ρ' f + ev ρ' k) v ∧ rdC v ≠ 2) → PPk 28 [] (([n, t, addL f k, (.ofNat 1, []), (.ofNat d, []), b, c] : List Ln).map (ev ρ')) := fun ρ' ha q1 q2 q3 => by
          obtain ⟨b0, c0, eb, ec, h4, h5⟩ := base ρ' ha
          have h6 := wRe_dig h4 h5 q1 q2 q3
          show wRe (ev ρ' n) (ev ρ' t) (ev ρ' (addL f k)) (ev ρ' ((.ofNat 1, []) : Ln)) (ev ρ' ((.ofNat d, []) : Ln)) (ev ρ' b) (ev ρ' c)
          rw [ev_add, eb, ec, show ev ρ' ((.ofNat 1, []) : Ln) = 1 from ev_k ρ' 1, show ev ρ' ((.ofNat d, []) : Ln) = (d : Int) from ev_k ρ' d]
          exact h6
        cases h7 : eqL tab fs k (kL 7) with
        | true =>
          rw [h7, cond_true] at h
          cases h
          refine ⟨_, List.mem_cons_self, hGood0 (fun ρ' ha => ⟨(hr ρ' ha).1, (hr ρ' ha).2.1, (hr ρ' ha).2.2.2⟩) (fun ρ' ha => List.forall_mem_cons.mpr ⟨?_, hp ρ' ha⟩)⟩
          obtain ⟨u1, u2, -⟩ := hr ρ' ha
          obtain ⟨b0, c0, eb, ec, h4, h5⟩ := base ρ' ha
          rw [eqL_ok u1 u2 h7, show ev ρ' (kL 7) = 7 from ev_k ρ' 7] at h5
          show wFa (ev ρ' n) (ev ρ' t) (ev ρ' (pluL (sclL 10 f) 2))
          rw [ev_plu, ev_scl]
          exact wFa_dig h4 h5
        | false =>
          rw [h7, cond_false] at h
          cases hb : (bif le0 tab fs (subL (kL 1) k) then le0 tab fs (subL k (kL 6)) else false) with
          | false => rw [hb] at h; cases h
          | true =>
            rw [hb, cond_true] at h
            obtain ⟨g1, g2⟩ := cand hb
            have bd : ∀ ρ', agr2 nx ρ ρ' → 1 ≤ ev ρ' k ∧ ev ρ' k ≤ 6 := fun ρ' ha => by
              obtain ⟨u1, u2, -⟩ := hr ρ' ha
              have e1 := le0_ok u1 u2 g1
              have e2 := le0_ok u1 u2 g2
              rw [ev_sub, show ev ρ' (kL 1) = 1 from ev_k ρ' 1] at e1
              rw [ev_sub, show ev ρ' (kL 6) = 6 from ev_k ρ' 6] at e2
              omega
            cases he : eqL tab fs (addL f k) n with
            | true =>
              rw [he, cond_true] at h
              cases h
              refine ⟨_, List.mem_cons_self, hGood0 (fun ρ' ha => ⟨(hr ρ' ha).1, (hr ρ' ha).2.1, (hr ρ' ha).2.2.2⟩) (fun ρ' ha => List.forall_mem_cons.mpr ⟨?_, fun p hq => hp ρ' ha p (List.mem_filter.mp (List.mem_filter.mp hq).1).1⟩)⟩
              obtain ⟨u1, u2, -⟩ := hr ρ' ha
              have e := eqL_ok u1 u2 he
              rw [ev_add] at e
              exact fin ρ' ha (bd ρ' ha).1 (bd ρ' ha).2 (Or.inl e)
            | false =>
              rw [he, cond_false] at h
              split at h
              · rename_i j h3
                obtain ⟨p3, m3, f3⟩ := List.exists_of_findSome?_eq_some h3
                cases hj2 : (bif Nat.beq j 2 then true else Nat.beq j 7) with
                | true => rw [hj2] at h; cases h
                | false =>
                  rw [hj2] at h
                  cases h
                  have j2 : j ≠ 2 := fun e => by rw [e] at hj2; cases hj2
                  have j7 : j ≠ 7 := fun e => by rw [e] at hj2; cases hj2
                  refine ⟨_, List.mem_cons_self, hGood0 (fun ρ' ha => ⟨(hr ρ' ha).1, (hr ρ' ha).2.1, (hr ρ' ha).2.2.2⟩) (fun ρ' ha => List.forall_mem_cons.mpr ⟨?_, fun p hq => hp ρ' ha p (List.mem_filter.mp (List.mem_filter.mp hq).1).1⟩)⟩
                  obtain ⟨u1, u2, -⟩ := hr ρ' ha
                  obtain ⟨v, q, ek⟩ := wCl_v (fKlas_ok u1 u2 (hp ρ' ha) m3 f3) (by omega)
                  rw [ev_add] at q
                  exact fin ρ' ha (bd ρ' ha).1 (bd ρ' ha).2 (Or.inr ⟨_, q, by omega⟩)
              · cases h
      · cases h
    · cases h
/-- a text's word with its place -/
noncomputable def f10o (q : Nat) (p : PD) : Option (Ln × Ln × Ln) := bif Nat.beq p.1 10 then (match p.2.1, p.2.2 with
  | [q'], [o, n, t, _, _] => bif Nat.beq q q' then some (o, n, t) else none
  | _, _ => none) else none
theorem f10o_ok {ρ : Nat → Int} {cσ : SH} {pr : List PD} {p : PD} {q : Nat} {o n t : Ln} (hp : prOk PPk ρ cσ pr) (hm : p ∈ pr) (h : f10o q p = some (o, n, t)) : okTr (arrI (cσ.getD q (.inl (0, [])))) (ev ρ o) (ev ρ n) (ev ρ t) := by
  obtain ⟨k, ls, ns⟩ := p
  unfold f10o at h
  cases hk : Nat.beq k 10 with
  | false => rw [hk] at h; cases h
  | true =>
    rw [hk, cond_true] at h
    have := Nat.eq_of_beq_eq_true hk
    subst this
    split at h
    · rename_i q' o' n' t' y z e1 e2
      try dsimp only at e1 e2
      subst e1; subst e2
      cases hb : Nat.beq q q' with
      | false => rw [hb] at h; cases h
      | true =>
        rw [hb] at h
        cases h
        rw [Nat.eq_of_beq_eq_true hb]
        have h3 : 10 = 10 ∧ okTr (arrI (cσ.getD q' (.inl (0, [])))) (ev ρ o) (ev ρ n) (ev ρ t) := hp _ hm
        exact h3.2
    · cases h
theorem okTr_el {l : List Int32} {o n t i : Int} (h : okTr l o n t) (h0 : 0 ≤ i) (h1 : i < n) : ∃ k : Nat, o + i = k ∧ wCh n t i (gI l k) := by
  obtain ⟨p, m, rfl, rfl, hm, hl, hx⟩ := h
  obtain ⟨j, rfl⟩ : ∃ j : Nat, i = j := ⟨i.toNat, by omega⟩
  refine ⟨p + j, by omega, _, j, hx, rfl, ?_⟩
  rw [List.getElem?_map, List.getElem?_take, if_pos (by omega), List.getElem?_drop, List.getElem?_eq_getElem (by omega)]
  unfold gI
  rw [List.getD_eq_getElem?_getD, List.getElem?_eq_getElem (by omega)]
  rfl
noncomputable def toldC (tab : Tb) (fs : List Ln) (pr : List PD) (q : Nat) (o n t f : Ln) : Bool := match pr.findSome? (fCh tab fs n t (addL f (dgK tab fs pr n t f))), findE tab fs q (addL o (addL f (dgK tab fs pr n t f))) pr with
  | some _, some _ => true
  | _, _ => false
/-- the character at hand gets a name -/
noncomputable def hChr (P q : Nat) : HF := fun pc _ A pr nx tab fs => bif Nat.beq pc P then (match pr.findSome? (f10o q), pr.findSome? f28 with
  | some (o, n, t), some (n', t', f, _, _, _, _) => bif toldC tab fs pr q o n' t' f then none else bif (bif eqL tab fs n n' then (bif eqL tab fs t t' then (bif le0 tab fs (subL f n) then (bif le0 tab fs (pluL (subL (addL f (dgK tab fs pr n' t' f)) n) 1) then scL nx (addL o (addL f (dgK tab fs pr n' t' f))) else false) else false) else false) else false) then some [(A, (7, [q], [addL o (addL f (dgK tab fs pr n' t' f)), sL nx]) :: (28, [], [n', t', addL f (dgK tab fs pr n' t' f), sL nx]) :: pr, Nat.succ nx, tbIns nx 0 127 tab, fs)] else none
  | _, _ => none) else none
theorem hChr_ok (P q : Nat) : HFOk PPk (hChr P q) := by
  intro pc lv A pr nx tab fs L ρ clv cσ h hr hp
  unfold hChr at h
  cases z : Nat.beq pc P with
  | false => rw [z] at h; cases h
  | true =>
    rw [z, cond_true] at h
    split at h
    · rename_i o n t n' t' f w d b c h1 h2
      obtain ⟨p1, m1, f1⟩ := List.exists_of_findSome?_eq_some h1
      obtain ⟨p2, m2, f2⟩ := List.exists_of_findSome?_eq_some h2
      cases htc : toldC tab fs pr q o n' t' f with
      | true => rw [htc] at h; cases h
      | false =>
      rw [htc, cond_false] at h
      cases hb : (bif eqL tab fs n n' then (bif eqL tab fs t t' then (bif le0 tab fs (subL f n) then (bif le0 tab fs (pluL (subL (addL f (dgK tab fs pr n' t' f)) n) 1) then scL nx (addL o (addL f (dgK tab fs pr n' t' f))) else false) else false) else false) else false) with
      | false => rw [hb] at h; cases h
      | true =>
        rw [hb] at h
        cases h
        obtain ⟨g1, hb⟩ := cand hb
        obtain ⟨g2, hb⟩ := cand hb
        obtain ⟨g3, hb⟩ := cand hb
        obtain ⟨g4, hsc⟩ := cand hb
        have key : ∀ ρ', agr2 nx ρ ρ' → ∃ k : Nat, ev ρ' (addL o (addL f (dgK tab fs pr n' t' f))) = k ∧ wCh (ev ρ' n') (ev ρ' t') (ev ρ' (addL f (dgK tab fs pr n' t' f))) (gI (arrI (cσ.getD q (.inl (0, [])))) k) := fun ρ' ha => by
          obtain ⟨u1, u2, -⟩ := hr ρ' ha
          have e1 := eqL_ok u1 u2 g1
          have e2 := eqL_ok u1 u2 g2
          have e3 := le0_ok u1 u2 g3
          have e4 := le0_ok u1 u2 g4
          rw [ev_sub] at e3
          rw [ev_plu, ev_sub] at e4
          have hre := f28_ok (hp ρ' ha) m2 f2
          have hd := dgK_ok u1 u2 (hp ρ' ha) hre (by omega)
          have h0 : 0 ≤ ev ρ' (addL f (dgK tab fs pr n' t' f)) := by
            obtain ⟨cs, a, m, -, q1, q2, -⟩ := hd
            rw [ev_add]; omega
          have ht := f10o_ok (hp ρ' ha) m1 f1
          obtain ⟨k, k1, k2⟩ := okTr_el ht h0 (by omega)
          rw [e1, e2] at k2
          exact ⟨k, by rw [ev_add ρ' o]; exact k1, k2⟩
        obtain ⟨k, k1, k2⟩ := key ρ agr2.rf
        have bd := wCh_bd k2
        refine ⟨_, List.mem_cons_self, fun j => if j = nx then gI (arrI (cσ.getD q (.inl (0, [])))) k else ρ j, Nat.le_succ nx, ev_upd, fun ρ' ha => ?_, fun ρ' ha => ?_⟩
        all_goals
          have ha' : agr2 nx ρ ρ' := fun i hi => (ha i (Nat.lt_succ_of_lt hi)).trans (ev_upd i hi)
          have hw : ρ' nx = gI (arrI (cσ.getD q (.inl (0, [])))) k := (ha nx (Nat.lt_succ_self nx)).trans (if_pos rfl)
        · obtain ⟨t1, t2, t3, t4⟩ := hr ρ' ha'
          exact ⟨tOk_cons t1 (by rw [hw]; exact bd.1) (by rw [hw]; exact bd.2), t2, t4⟩
        · obtain ⟨k', k1', k2'⟩ := key ρ' ha'
          have e : k' = k := by
            have := scL_ev ha' hsc
            omega
          subst e
          refine pr_7 (List.forall_mem_cons.mpr ⟨?_, hp ρ' ha'⟩) k1' ?_
          · show wCh (ev ρ' n') (ev ρ' t') (ev ρ' (addL f (dgK tab fs pr n' t' f))) (ev ρ' (sL nx))
            rw [ev_s, hw]; exact k2'
          · rw [ev_s]; exact hw.symm
    · cases h
