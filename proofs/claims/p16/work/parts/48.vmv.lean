/-! ===== views: what is loaded and stored in rows, and operations, told as words ===== -/
noncomputable def pfxL (tab : Tb) (fs : List Ln) : List Ln → List Ln → Option (List Ln)
  | [], ys => some ys
  | x :: xs, y :: ys => bif eqL tab fs x y then pfxL tab fs xs ys else none
  | _ :: _, [] => none
/-- what stands behind these inputs, in the first word of kind k that has them -/
noncomputable def fFn (tab : Tb) (fs : List Ln) (k : Nat) (ins : List Ln) : List PD → Option (List Ln)
  | [] => none
  | p :: r => bif Nat.beq p.1 k then (match p.2.1 with
    | [] => (match pfxL tab fs ins p.2.2 with
      | some o => some o
      | none => fFn tab fs k ins r)
    | _ :: _ => fFn tab fs k ins r) else fFn tab fs k ins r
section VMV
variable {ρ : Nat → Int} {tab : Tb} {fs : List Ln} {cσ : SH} {pr : List PD}
theorem pfxL_ok (ht : tOk ρ tab) (hf : fOk ρ fs) : ∀ {xs ys o : List Ln}, pfxL tab fs xs ys = some o → ys.map (ev ρ) = xs.map (ev ρ) ++ o.map (ev ρ)
  | [], ys, o, h => by
    unfold pfxL at h
    cases h
    rfl
  | x :: xs, [], o, h => by cases h
  | x :: xs, y :: ys, o, h => by
    unfold pfxL at h
    cases h1 : eqL tab fs x y with
    | false => rw [h1] at h; cases h
    | true =>
      rw [h1, cond_true] at h
      rw [List.map_cons, List.map_cons, pfxL_ok ht hf h, eqL_ok ht hf h1]
      rfl
theorem fFn_ok (ht : tOk ρ tab) (hf : fOk ρ fs) {k : Nat} {ins o : List Ln} : ∀ {pr : List PD}, fFn tab fs k ins pr = some o → ∃ ns : List Ln, (k, [], ns) ∈ pr ∧ ns.map (ev ρ) = ins.map (ev ρ) ++ o.map (ev ρ) := by
  intro pr
  induction pr with
  | nil => intro h; cases h
  | cons p r ih =>
    intro h
    have step : fFn tab fs k ins r = some o → ∃ ns : List Ln, (k, [], ns) ∈ p :: r ∧ ns.map (ev ρ) = ins.map (ev ρ) ++ o.map (ev ρ) := fun h => by
      obtain ⟨ns, h1, h2⟩ := ih h
      exact ⟨ns, List.mem_cons_of_mem _ h1, h2⟩
    obtain ⟨pk, pl, pn⟩ := p
    unfold fFn at h
    cases h1 : Nat.beq pk k with
    | false =>
      simp only [h1, cond_false] at h
      exact step h
    | true =>
      simp only [h1, cond_true] at h
      have e := Nat.eq_of_beq_eq_true h1
      subst e
      match pl, h with
      | _ :: _, h => exact step h
      | [], h =>
        try dsimp only at h
        split at h
        · rename_i o' ho
          cases h
          exact ⟨pn, List.mem_cons_self, pfxL_ok ht hf ho⟩
        · exact step h
theorem arrK_i {k q : Nat} {l : List Int32} (h2 : k ≠ 22) (h : isLg k = false) : arrK k (.inr (q, .inl l)) = l := by
  unfold arrK
  rw [nbeq h2, cond_false]
  rw [h]
  rfl
theorem arrK_iL {k q : Nat} {l : List Int32} (h2 : k ≠ 22) (h : isLg k = true) : arrK k (.inr (q, .inl l)) = [] := by
  unfold arrK
  rw [nbeq h2, cond_false]
  rw [h]
  rfl
theorem arrK_j {k q : Nat} {l : List Int64} (h2 : k ≠ 22) (h : isLg k = true) : arrK k (.inr (q, .inr (.inl l))) = l.flatMap encX := by
  unfold arrK
  rw [nbeq h2, cond_false]
  rw [h]
  rfl
theorem arrK_jI {k q : Nat} {l : List Int64} (h2 : k ≠ 22) (h : isLg k = false) : arrK k (.inr (q, .inr (.inl l))) = [] := by
  unfold arrK
  rw [nbeq h2, cond_false]
  rw [h]
  rfl
theorem rv_long {l : List Int64} {i : Nat} (h : i < l.length) : rvG true (l.flatMap encX) i = (l.getD i 0).toInt := by
  show gI (l.flatMap encX) (2 * i) * 4294967296 + (gI (l.flatMap encX) (2 * i + 1) + 2147483648) = _
  rcases encX_get l i with a | a
  · rcases encX_get1 l i with b | b
    · rw [a, b, encX_0, encX_1]
      omega
    · omega
  · omega
theorem rv_longN {l : List Int64} : rvN true (l.flatMap encX) = l.length := by
  show (l.flatMap encX).length / 2 = _
  rw [encX_len]
  omega
theorem rowsD {rows : List Nat} {F : Nat → List Int32} {i a : Nat} (h : rows[i]? = some a) : (rows.map F).getD i [] = F a := by
  rw [List.getD_eq_getElem?_getD, List.getElem?_map, h]
  rfl
theorem hit1 (ht : tOk ρ tab) (hf : fOk ρ fs) {k a : Nat} {e o X n κ : Ln} {rows : List Nat} {F : Nat → List Int32} {l : List Ln} (hv : vOk k (rows.map F) (ev ρ o) (ev ρ X) (ev ρ n)) (hh : hitF tab fs a e rows o n (vwT k) = some l) (hκ : κ ∈ l) : ∃ i : Nat, ev ρ e = i ∧ i < rvN (isLg k) (F a) ∧ rvG (isLg k) (F a) i = gX (ev ρ X) (ev ρ κ) := by
  obtain ⟨hX, m, hm, hp⟩ := hv
  obtain ⟨c1, c2, c3⟩ := hitF_ok ht hf hm (vwT_s k) hh
  obtain ⟨i, p, j, d1, d2, d3, d4, d5⟩ := c3 κ hκ
  obtain ⟨x, x1, x2, x3⟩ := hp p (List.mem_of_getElem? d1) j d3
  rw [rowsD d2] at x2 x3
  exact ⟨x, by omega, x2, by rw [x3, d5]⟩
/-- what one store does to a row -/
noncomputable def stR (lg : Bool) (f g : List Int32) (e v : Int) : Prop := rvN lg g = rvN lg f ∧ (∃ i : Nat, e = i ∧ i < rvN lg f) ∧ ∀ i : Nat, i < rvN lg f → rvG lg g i = if (i : Int) = e then v else rvG lg f i
theorem vst0 (ht : tOk ρ tab) (hf : fOk ρ fs) {k a : Nat} {e o X n : Ln} {rows : List Nat} {F G : Nat → List Int32} {v : Int} (hv : vOk k (rows.map F) (ev ρ o) (ev ρ X) (ev ρ n)) (hh : hitF tab fs a e rows o n (vwT k) = some []) (hne : ∀ i, i ≠ a → G i = F i) (hs : stR (isLg k) (F a) (G a) (ev ρ e) v) : vOk k (rows.map G) (ev ρ o) (ev ρ X) (ev ρ n) := by
  obtain ⟨hX, m, hm, hp⟩ := hv
  obtain ⟨c1, c2, -⟩ := hitF_ok ht hf hm (vwT_s k) hh
  refine ⟨hX, m, hm, fun p hpm j hj => ?_⟩
  obtain ⟨x, x1, x2, x3⟩ := hp p hpm j hj
  obtain ⟨q, hq⟩ := c1 p hpm
  obtain ⟨ix, hix⟩ := List.mem_iff_getElem?.mp hpm
  rw [rowsD hq] at x2 x3 ⊢
  by_cases hqa : q = a
  · subst hqa
    refine ⟨x, x1, by rw [hs.1]; exact x2, ?_⟩
    rw [hs.2.2 x x2, if_neg (fun z => ?_), x3]
    obtain ⟨κ, k1, -⟩ := c2 ix p j hix hq hj (by omega)
    cases k1
  · rw [hne q hqa]
    exact ⟨x, x1, x2, x3⟩
theorem vst1 (ht : tOk ρ tab) (hf : fOk ρ fs) {k a : Nat} {e o X n κ : Ln} {rows : List Nat} {F G : Nat → List Int32} {v : Int} (hv : vOk k (rows.map F) (ev ρ o) (ev ρ X) (ev ρ n)) (hh : hitF tab fs a e rows o n (vwT k) = some [κ]) (hne : ∀ i, i ≠ a → G i = F i) (hs : stR (isLg k) (F a) (G a) (ev ρ e) v) : vOk k (rows.map G) (ev ρ o) (uX (ev ρ X) (ev ρ κ) v) (ev ρ n) ∧ 0 ≤ ev ρ X ∧ 0 ≤ ev ρ κ := by
  obtain ⟨hX, m, hm, hp⟩ := hv
  obtain ⟨c1, c2, c3⟩ := hitF_ok ht hf hm (vwT_s k) hh
  obtain ⟨i0, p0, j0, d1, d2, d3, d4, d5⟩ := c3 κ List.mem_cons_self
  have hκ : 0 ≤ ev ρ κ := by
    have : (0 : Int) ≤ p0.2.2.2.2.1 * j0 := Int.mul_nonneg (by omega) (by omega)
    omega
  refine ⟨⟨uX_nn _ _ _ hX, m, hm, fun p hpm j hj => ?_⟩, hX, hκ⟩
  obtain ⟨x, x1, x2, x3⟩ := hp p hpm j hj
  obtain ⟨q, hq⟩ := c1 p hpm
  obtain ⟨ix, hix⟩ := List.mem_iff_getElem?.mp hpm
  have inj : ev ρ κ = p.2.2.2.1 + p.2.2.2.2.1 * j → ix = i0 ∧ j = j0 ∧ p = p0 := fun z => by
    have z2 : p.2.2.2.1 + p.2.2.2.2.1 * j = p0.2.2.2.1 + p0.2.2.2.2.1 * j0 := by
      have : ((p.2.2.2.1 + p.2.2.2.2.1 * j : Nat) : Int) = ((p0.2.2.2.1 + p0.2.2.2.2.1 * j0 : Nat) : Int) := by
        rw [Int.natCast_add, Int.natCast_add, Int.natCast_mul, Int.natCast_mul, ← z, d5]
      omega
    obtain ⟨y1, y2⟩ := djL_ok (vwT_dj k) ix i0 p p0 hix d1 hj d3 z2
    subst y1
    rw [hix] at d1
    cases d1
    exact ⟨rfl, y2, rfl⟩
  rw [rowsD hq] at x2 x3 ⊢
  by_cases hqa : q = a
  · subst hqa
    refine ⟨x, x1, by rw [hs.1]; exact x2, ?_⟩
    rw [hs.2.2 x x2]
    by_cases z : (x : Int) = ev ρ e
    · rw [if_pos z]
      obtain ⟨κ', k1, k2⟩ := c2 ix p j hix hq hj (by omega)
      rw [List.mem_singleton.mp k1] at k2
      rw [k2, gX_uX]
      omega
    · rw [if_neg z, x3, gX_ne _ _ _ _ hκ]
      intro z2
      obtain ⟨y1, y2, y3⟩ := inj z2.symm
      subst y2; subst y3
      omega
  · rw [hne q hqa]
    refine ⟨x, x1, x2, ?_⟩
    rw [x3, gX_ne _ _ _ _ hκ]
    intro z2
    obtain ⟨y1, y2, y3⟩ := inj z2.symm
    subst y2; subst y3
    rw [hq] at d2
    cases d2
    exact hqa rfl
/-- kinds that grow by a store right behind their last place -/
noncomputable def grwK (k : Nat) : Bool := bif Nat.beq k 115 then true else bif Nat.beq k 152 then true else Nat.beq k 153
theorem grw_T {k : Nat} (h : grwK k = true) : vwT k = [(0, 0, 1, 0, 1, none)] ∧ isMd k = false := by
  have hk : k = 115 ∨ k = 152 ∨ k = 153 := by
    unfold grwK at h
    cases h1 : Nat.beq k 115 with
    | true => exact Or.inl (Nat.eq_of_beq_eq_true h1)
    | false =>
      rw [h1, cond_false] at h
      cases h2 : Nat.beq k 152 with
      | true => exact Or.inr (Or.inl (Nat.eq_of_beq_eq_true h2))
      | false =>
        rw [h2, cond_false] at h
        exact Or.inr (Or.inr (Nat.eq_of_beq_eq_true h))
  rcases hk with rfl | rfl | rfl <;> exact ⟨rfl, rfl⟩
theorem vstG {k a : Nat} {e X n : Int} {F G : Nat → List Int32} {v : Int} (hk : grwK k = true) (hv : vOk k ([a].map F) 0 X n) (he : e = n) (hs : stR (isLg k) (F a) (G a) e v) : vOk k ([a].map G) 0 (uX X n v) (n + 1) ∧ 0 ≤ X ∧ 0 ≤ n := by
  obtain ⟨hX, m, hm, hp⟩ := hv
  subst hm
  obtain ⟨hT, -⟩ := grw_T hk
  rw [hT] at hp
  have h0 := hp _ (List.mem_singleton.mpr rfl)
  refine ⟨⟨uX_nn _ _ _ hX, m + 1, rfl, ?_⟩, hX, by omega⟩
  rw [hT]
  intro p hpm
  rw [List.mem_singleton.mp hpm]
  intro j hj
  have hj' : j < m + 1 := hj
  show ∃ i : Nat, (i : Int) = 0 + ((0 : Nat) : Int) + ((1 : Nat) : Int) * j ∧ i < rvN (isLg k) (G a) ∧ rvG (isLg k) (G a) i = gX (uX X m v) (((0 : Nat) : Int) + ((1 : Nat) : Int) * j)
  refine ⟨j, by omega, ?_, ?_⟩
  · rw [hs.1]
    obtain ⟨i, i1, i2⟩ := hs.2.1
    omega
  · obtain ⟨i, i1, i2⟩ := hs.2.1
    rw [hs.2.2 j (by omega)]
    have e1 : ((0 : Nat) : Int) + ((1 : Nat) : Int) * j = j := by omega
    rw [e1]
    by_cases z : j = m
    · subst z
      rw [if_pos (by omega), gX_uX _ _ _ (by omega)]
    · rw [if_neg (by omega), gX_ne _ _ _ _ (by omega) (by omega)]
      obtain ⟨x, x1, x2, x3⟩ := h0 j (show j < m by omega)
      have x1' : (x : Int) = 0 + ((0 : Nat) : Int) + ((1 : Nat) : Int) * j := x1
      have ex : x = j := by omega
      subst ex
      have x3' : rvG (isLg k) (F a) x = gX X (((0 : Nat) : Int) + ((1 : Nat) : Int) * x) := x3
      rw [x3', e1]
-- loads
/-- views that know row a's place e: their number, the place in it -/
noncomputable def ldHs (tab : Tb) (fs : List Ln) (a : Nat) (e : Ln) : List PD → List (Ln × Ln)
  | [] => []
  | p :: r => bif (bif isVw p.1 then memN a p.2.1 else false) then (match vwArg p.1 p.2.2 with
    | some (o, X, n) => (match hitF tab fs a e p.2.1 o n (vwT p.1) with
      | some [κ] => (X, κ) :: ldHs tab fs a e r
      | _ => ldHs tab fs a e r)
    | none => ldHs tab fs a e r) else ldHs tab fs a e r
theorem ldHs_mem {a : Nat} {e : Ln} {h : Ln × Ln} : ∀ {pr : List PD}, h ∈ ldHs tab fs a e pr → ∃ p ∈ pr, isVw p.1 = true ∧ ∃ o n, vwArg p.1 p.2.2 = some (o, h.1, n) ∧ hitF tab fs a e p.2.1 o n (vwT p.1) = some [h.2] := by
  intro pr
  induction pr with
  | nil => intro hm; cases hm
  | cons p r ih =>
    intro hm
    have step : h ∈ ldHs tab fs a e r → ∃ q ∈ p :: r, isVw q.1 = true ∧ ∃ o n, vwArg q.1 q.2.2 = some (o, h.1, n) ∧ hitF tab fs a e q.2.1 o n (vwT q.1) = some [h.2] := fun z => by
      obtain ⟨q, q1, q2⟩ := ih z
      exact ⟨q, List.mem_cons_of_mem _ q1, q2⟩
    unfold ldHs at hm
    cases h1 : (bif isVw p.1 then memN a p.2.1 else false) with
    | false => rw [h1, cond_false] at hm; exact step hm
    | true =>
      rw [h1, cond_true] at hm
      obtain ⟨g1, g2⟩ := cand h1
      split at hm
      · rename_i o X n ha
        split at hm
        · rename_i κ hk
          rcases List.mem_cons.mp hm with rfl | hm
          · exact ⟨p, List.mem_cons_self, g1, o, n, ha, hk⟩
          · exact step hm
        · exact step hm
      · exact step hm
theorem ldHs_i (ht : tOk ρ tab) (hf : fOk ρ fs) (hp : prOk PPk ρ cσ pr) {a q : Nat} {e : Ln} {l : List Int32} (hc : cσ[a]? = some (.inr (q, .inl l))) {h : Ln × Ln} (hm : h ∈ ldHs tab fs a e pr) {i : Nat} (hi : ev ρ e = i) : (l.getD i 0).toInt = gX (ev ρ h.1) (ev ρ h.2) := by
  obtain ⟨p, p1, p2, o, n, p3, p4⟩ := ldHs_mem hm
  have hv := vw_get p2 p3 (hp p p1)
  obtain ⟨i', i1, i2, i3⟩ := hit1 ht hf hv p4 List.mem_cons_self
  have h22 : p.1 ≠ 22 := by have := isVw_r p2; omega
  have hg : cσ.getD a (.inl (0, [])) = .inr (q, .inl l) := by rw [List.getD_eq_getElem?_getD, hc]; rfl
  have ei : i' = i := by omega
  subst ei
  try dsimp only at i2 i3
  rw [hg] at i2 i3
  cases hl : isLg p.1 with
  | true =>
    rw [hl, arrK_iL h22 hl] at i2
    exact absurd i2 (Nat.not_lt_zero _)
  | false =>
    rw [hl, arrK_i h22 hl] at i3
    exact i3
theorem ldHs_j (ht : tOk ρ tab) (hf : fOk ρ fs) (hp : prOk PPk ρ cσ pr) {a q : Nat} {e : Ln} {l : List Int64} (hc : cσ[a]? = some (.inr (q, .inr (.inl l)))) {h : Ln × Ln} (hm : h ∈ ldHs tab fs a e pr) {i : Nat} (hi : ev ρ e = i) : i < l.length ∧ (l.getD i 0).toInt = gX (ev ρ h.1) (ev ρ h.2) := by
  obtain ⟨p, p1, p2, o, n, p3, p4⟩ := ldHs_mem hm
  have hv := vw_get p2 p3 (hp p p1)
  obtain ⟨i', i1, i2, i3⟩ := hit1 ht hf hv p4 List.mem_cons_self
  have h22 : p.1 ≠ 22 := by have := isVw_r p2; omega
  have hg : cσ.getD a (.inl (0, [])) = .inr (q, .inr (.inl l)) := by rw [List.getD_eq_getElem?_getD, hc]; rfl
  have ei : i' = i := by omega
  subst ei
  try dsimp only at i2 i3
  rw [hg] at i2 i3
  cases hl : isLg p.1 with
  | false =>
    rw [hl, arrK_jI h22 hl] at i2
    exact absurd i2 (Nat.not_lt_zero _)
  | true =>
    rw [hl, arrK_j h22 hl] at i2 i3
    rw [rv_longN] at i2
    rw [rv_long i2] at i3
    exact ⟨i2, i3⟩
end VMV
/-- a symbol's bounds, drawn closer -/
noncomputable def tgtL (v : Ln) (lo hi : Int) (tab : Tb) : Tb := match v.2 with
  | [(y, k)] => bif (bif isZ v.1 then eqI k 1 else false) then (match tbLk y tab with
    | some (l, h) => bif (bif leI lo l then leI h hi else false) then tab else tbIns y (bif leI lo l then l else lo) (bif leI h hi then h else hi) tab
    | none => tbIns y lo hi tab) else tab
  | _ => tab
theorem tgtL_ok {ρ : Nat → Int} {tab : Tb} {v : Ln} {lo hi : Int} (ht : tOk ρ tab) (h1 : lo ≤ ev ρ v) (h2 : ev ρ v ≤ hi) : tOk ρ (tgtL v lo hi tab) := by
  unfold tgtL
  split
  · rename_i y k he
    cases h : (bif isZ v.1 then eqI k 1 else false) with
    | false => exact ht
    | true =>
      rw [cond_true]
      obtain ⟨g1, g2⟩ := cand h
      have e1 := isZ_eq g1
      have e2 := eqI_eq g2
      have e3 : ev ρ v = ρ y := by
        show v.1 + evT ρ v.2 = _
        rw [he, e1, e2]
        show 0 + (1 * ρ y + 0) = ρ y
        omega
      rw [e3] at h1 h2
      split
      · rename_i l h' hl
        have hb := tbLk_ok ht hl
        try dsimp only at hb
        cases h3 : (bif leI lo l then leI h' hi else false) with
        | true => exact ht
        | false =>
          rw [cond_false]
          refine tOk_cons ht ?_ ?_
          · cases leI lo l with
            | true => exact hb.1
            | false => exact h1
          · cases leI h' hi with
            | true => exact hb.2
            | false => exact h2
      · exact tOk_cons ht h1 h2
  · exact ht
noncomputable def pushL (v : Ln) (fs : List Ln) (f : Option Ln) : List Ln := match f with
  | some e => subL v e :: fs
  | none => fs
/-- a result: the one that a word has told, or a symbol of its own -/
noncomputable def resV (lg : Bool) (k : Nat) (ins : List Ln) (lo hi : Int) (f : Option Ln) (pc : Nat) (rest : List AV) (lv : AL) (A : AH) (pr : List PD) (nx : Nat) (tab : Tb) (fs : List Ln) : MR := match fFn tab fs k ins pr with
  | some [v] => (pc, .inl (lg, v) :: rest, lv, A, pr, nx, tgtL v lo hi tab, pushL v fs f)
  | _ => (pc, .inl (lg, sL nx) :: rest, lv, A, (k, [], ins ++ [sL nx]) :: pr, Nat.succ nx, tbIns nx lo hi tab, pushL (sL nx) fs f)
section VMR
variable {ρ : Nat → Int} {nx : Nat} {tab : Tb} {fs : List Ln} {rest : List AV} {lv : AL} {A : AH} {pr : List PD} {cr : List Value} {clv : LV} {cσ : SH}
/-- what a macro must give, with these values on the stack -/
noncomputable def MvG (ρ : Nat → Int) (nx : Nat) (cst : List Value) (clv : LV) (cσ : SH) (r : MR) : Prop := ∃ ρ1 : Nat → Int, nx ≤ r.2.2.2.2.2.1 ∧ agr2 nx ρ ρ1 ∧ (∀ ρ', agr2 r.2.2.2.2.2.1 ρ1 ρ' → tOk ρ' r.2.2.2.2.2.2.1 ∧ fOk ρ' r.2.2.2.2.2.2.2 ∧ rel2 (vrel ρ') cst r.2.1 ∧ lvR ρ' clv r.2.2.1 ∧ rel2 (crel ρ') cσ r.2.2.2.1) ∧ ∀ ρ', agr2 r.2.2.2.2.2.1 ρ1 ρ' → prOk PPk ρ' cσ r.2.2.2.2.1
theorem resV_ok {lg : Bool} {k pc : Nat} {ins : List Ln} {lo hi z : Int} {f : Option Ln} {c : Value} (hr : ∀ ρ', agr2 nx ρ ρ' → tOk ρ' tab ∧ fOk ρ' fs ∧ rel2 (vrel ρ') cr rest ∧ lvR ρ' clv lv ∧ rel2 (crel ρ') cσ A) (hp : ∀ ρ', agr2 nx ρ ρ' → prOk PPk ρ' cσ pr) (hv : ∀ ρ' e, z = ev ρ' e → vrel ρ' c (.inl (lg, e))) (h1 : lo ≤ z) (h2 : z ≤ hi) (hk : PPk k = PPk k) (hz : ∀ ρ', agr2 nx ρ ρ' → PPk k [] (ins.map (ev ρ') ++ [z])) (hu : ∀ ρ', agr2 nx ρ ρ' → ∀ v, PPk k [] (ins.map (ev ρ') ++ [v]) → v = z) (hf : ∀ ρ', agr2 nx ρ ρ' → ∀ e, f = some e → z ≤ ev ρ' e) : MvG ρ nx (c :: cr) clv cσ (resV lg k ins lo hi f pc rest lv A pr nx tab fs) := by
  have hpush : ∀ {ρ' : Nat → Int} {v : Ln}, agr2 nx ρ ρ' → fOk ρ' fs → ev ρ' v = z → fOk ρ' (pushL v fs f) := fun {ρ' v} ha h e => by
    unfold pushL
    split
    · rename_i g
      refine fOk_cons h ?_
      rw [ev_sub, e]
      have := hf ρ' ha g rfl
      omega
    · exact h
  unfold resV
  split
  · rename_i v hv'
    refine ⟨ρ, Nat.le_refl _, agr2.rf, fun ρ' ha => ?_, hp⟩
    obtain ⟨t1, t2, t3, t4, t5⟩ := hr ρ' ha
    obtain ⟨ns, n1, n2⟩ := fFn_ok t1 t2 hv'
    have h3 := hp ρ' ha _ n1
    have h4 : PPk k [] (ns.map (ev ρ')) := h3
    rw [n2] at h4
    have e : ev ρ' v = z := hu ρ' ha _ h4
    exact ⟨tgtL_ok t1 (by omega) (by omega), hpush ha t2 e, ⟨hv ρ' v e.symm, t3⟩, t4, t5⟩
  · have hag : ∀ {ρ'}, agr2 (Nat.succ nx) (fun j => if j = nx then z else ρ j) ρ' → agr2 nx ρ ρ' ∧ ρ' nx = z := fun {ρ'} ha => ⟨fun j hj => (ha j (Nat.lt_succ_of_lt hj)).trans (if_neg (by omega)), (ha nx (Nat.lt_succ_self nx)).trans (if_pos rfl)⟩
    refine ⟨fun j => if j = nx then z else ρ j, Nat.le_succ nx, fun j hj => if_neg (by omega), fun ρ' ha => ?_, fun ρ' ha => ?_⟩
    · obtain ⟨ha0, ha1⟩ := hag ha
      obtain ⟨t1, t2, t3, t4, t5⟩ := hr ρ' ha0
      have e : ev ρ' (sL nx) = z := by rw [ev_s, ha1]
      exact ⟨tOk_cons t1 (by omega) (by omega), hpush ha0 t2 e, ⟨hv ρ' _ e.symm, t3⟩, t4, t5⟩
    · obtain ⟨ha0, ha1⟩ := hag ha
      refine List.forall_mem_cons.mpr ⟨?_, hp ρ' ha0⟩
      show PPk k [] ((ins ++ [sL nx]).map (ev ρ'))
      rw [List.map_append, List.map_cons, List.map_nil, ev_s, ha1]
      exact hz ρ' ha0
/-- words of elements, where they aren't there -/
noncomputable def addE (tab : Tb) (fs : List Ln) (v : Ln) : List (Ln × Ln) → List PD → List PD
  | [], pr => pr
  | (X, κ) :: r, pr => match fFn tab fs 201 [X, κ, v] pr with
    | some _ => addE tab fs v r pr
    | none => addE tab fs v r ((201, [], [X, κ, v]) :: pr)
theorem w201_p {X κ v : Int} : PPk 201 [] [X, κ, v] = (v = gX X κ) := rfl
theorem addE_ok {v : Ln} : ∀ {Hs : List (Ln × Ln)} {pr : List PD}, prOk PPk ρ cσ pr → (∀ h ∈ Hs, ev ρ v = gX (ev ρ h.1) (ev ρ h.2)) → prOk PPk ρ cσ (addE tab fs v Hs pr)
  | [], pr, hp, _ => hp
  | (X, κ) :: r, pr, hp, hh => by
    have h0 := hh _ List.mem_cons_self
    have hr : ∀ h ∈ r, ev ρ v = gX (ev ρ h.1) (ev ρ h.2) := fun h hm => hh h (List.mem_cons_of_mem _ hm)
    unfold addE
    split
    · exact addE_ok hp hr
    · refine addE_ok (List.forall_mem_cons.mpr ⟨?_, hp⟩) hr
      show PPk 201 [] [ev ρ X, ev ρ κ, ev ρ v]
      rw [w201_p]
      exact h0
noncomputable def mvLdI (pc : Nat) (st : List AV) (lv : AL) (A : AH) (pr : List PD) (nx : Nat) (tab : Tb) (fs : List Ln) : Option MR := match st with
  | .inl (false, e) :: .inr (.inl (some a)) :: r => (match A[a]? with
    | some (.inr (k, .inl s)) => bif Nat.beq k 0 then (match ldHs tab fs a e pr with
      | [] => none
      | H :: Hs => (match sgLd tab fs e s with
        | none => none
        | some o => (match findE tab fs a e pr with
          | some v => some (pc, .inl (false, v) :: r, lv, A, addE tab fs v (H :: Hs) pr, nx, tab, fs)
          | none => (match o with
            | .inl v => some (pc, .inl (false, v) :: r, lv, A, addE tab fs v (H :: Hs) pr, nx, tab, fs)
            | .inr (lo, hi, _) => bif eqI lo hi then some (pc, .inl (false, kL lo) :: r, lv, A, addE tab fs (kL lo) (H :: Hs) pr, nx, tab, fs) else some (resV false 201 [H.1, H.2] lo hi none pc r lv A pr nx tab fs))))) else none
    | _ => none)
  | _ => none
theorem mvLdI_ok {pc : Nat} {st : List AV} {cst : List Value} {R : MR} (hM : mvLdI pc st lv A pr nx tab fs = some R) (hr : ∀ ρ', agr2 nx ρ ρ' → tOk ρ' tab ∧ fOk ρ' fs ∧ rel2 (vrel ρ') cst st ∧ lvR ρ' clv lv ∧ rel2 (crel ρ') cσ A) (hp : ∀ ρ', agr2 nx ρ ρ' → prOk PPk ρ' cσ pr) : R.1 = pc ∧ ∃ cst', stepD none .iaload 0 0 cst cσ = some cst' ∧ MvG ρ nx cst' clv cσ R := by
  unfold mvLdI at hM
  split at hM
  · rename_i e a r
    split at hM
    · rename_i k s hA
      cases hk : Nat.beq k 0 with
      | false => rw [hk] at hM; cases hM
      | true =>
        rw [hk, cond_true] at hM
        have ek := Nat.eq_of_beq_eq_true hk
        subst ek
        split at hM
        · cases hM
        · rename_i H Hs hHs
          split at hM
          · cases hM
          · rename_i o ho
            obtain ⟨t1, t2, t3, t4, t5⟩ := hr ρ agr2.rf
            obtain ⟨v1, c1, e1, h1, hs1⟩ := rel2_cons t3
            obtain ⟨v2, c2, e2, h2, hs2⟩ := rel2_cons hs1
            obtain ⟨x, e3, h3⟩ := vI_inv h1
            have e4 := vR_inv h2
            subst e1; subst e2; subst e3; subst e4
            obtain ⟨cc, hc1, hc2⟩ := rel2_get t5 hA
            obtain ⟨l, e5, h5⟩ := crI_inv (by omega) hc2
            subst e5
            have q : ∀ ρ', agr2 nx ρ ρ' → tOk ρ' tab ∧ fOk ρ' fs ∧ x.toInt = ev ρ' e ∧ rel2 (vrel ρ') c2 r ∧ lvR ρ' clv lv ∧ rel2 (crel ρ') cσ A ∧ srel ρ' s l := fun ρ' ha => by
              obtain ⟨u1, u2, u3, u4, u5⟩ := hr ρ' ha
              obtain ⟨w1, d1, f1, g1, hs1'⟩ := rel2_cons u3
              cases f1
              obtain ⟨w2, d2, f2, g2, hs2'⟩ := rel2_cons hs1'
              cases f2
              obtain ⟨x', f3, g3⟩ := vI_inv g1
              cases f3
              obtain ⟨cc', k1, k2⟩ := rel2_get u5 hA
              rw [hc1] at k1
              cases k1
              obtain ⟨l', k3, k4⟩ := crI_inv (by omega) k2
              cases k3
              exact ⟨u1, u2, g3, hs2', u4, u5, k4⟩
            obtain ⟨b1, b2⟩ := sgLd_ok t1 t2 h5 h3 ho
            have hx0 : 0 ≤ x.toInt := by
              unfold inB at b1
              have b3 := of_decide_eq_true (cand0 (by
                have := b1
                rw [Bool.and_eq_true] at this
                rw [this.1, this.2]
                rfl : (bif decide (0 ≤ x) then decide (x.toNatClampNeg < l.length) else false) = true)).1
              have := Int32.le_iff_toInt_le.mp b3
              exact this
            have hxn : ∀ ρ', agr2 nx ρ ρ' → ev ρ' e = ((x.toNatClampNeg : Nat) : Int) := fun ρ' ha => by
              obtain ⟨-, -, u3, -⟩ := q ρ' ha
              rw [← u3]
              show x.toInt = ((x.toInt.toNat : Nat) : Int)
              omega
            have hH : ∀ ρ', agr2 nx ρ ρ' → ∀ h ∈ H :: Hs, (l.getD x.toNatClampNeg 0).toInt = gX (ev ρ' h.1) (ev ρ' h.2) := fun ρ' ha h hm => by
              obtain ⟨u1, u2, -⟩ := q ρ' ha
              rw [← hHs] at hm
              exact ldHs_i u1 u2 (hp ρ' ha) hc1 hm (hxn ρ' ha)
            have hstep : stepD none .iaload 0 0 (.int x :: .ref a :: c2) cσ = some (.int (l.getD x.toNatClampNeg 0) :: c2) := by
              show aI 0 (.int x :: .ref a :: c2) cσ = _
              unfold aI
              simp only [hc1]
              rw [if_pos ⟨trivial, b1⟩]
            have hex : ∀ (v : Ln), (∀ ρ', agr2 nx ρ ρ' → (l.getD x.toNatClampNeg 0).toInt = ev ρ' v) → MvG ρ nx (.int (l.getD x.toNatClampNeg 0) :: c2) clv cσ (pc, .inl (false, v) :: r, lv, A, addE tab fs v (H :: Hs) pr, nx, tab, fs) := fun v hv => by
              refine ⟨ρ, Nat.le_refl _, agr2.rf, fun ρ' ha => ?_, fun ρ' ha => addE_ok (hp ρ' ha) (fun h hm => ?_)⟩
              · obtain ⟨u1, u2, u3, u4, u5, u6, -⟩ := q ρ' ha
                exact ⟨u1, u2, ⟨⟨_, rfl, hv ρ' ha⟩, u4⟩, u5, u6⟩
              · rw [← hv ρ' ha]
                exact hH ρ' ha h hm
            split at hM
            · rename_i v hv
              cases hM
              refine ⟨rfl, _, hstep, hex v fun ρ' ha => ?_⟩
              obtain ⟨u1, u2, -⟩ := q ρ' ha
              obtain ⟨e', m1, m2⟩ := findE_ok hv
              have h6 := prI (hp ρ' ha) m1 ⟨Nat.ne_of_beq_eq_false rfl, rfl⟩
              have h7 : PPk 7 [arrI (cσ.getD a (.inl (0, [])))] [ev ρ' e', ev ρ' v] := h6
              have h8 := ldk _ _ _ h7
              have hg : cσ.getD a (.inl (0, [])) = .inr (0, .inl l) := by rw [List.getD_eq_getElem?_getD, hc1]; rfl
              rw [hg] at h8
              have h9 : (l.getD (ev ρ' e').toNat 0).toInt = ev ρ' v := h8
              rw [← eqL_ok u1 u2 m2, hxn ρ' ha] at h9
              exact h9
            · match o, ho, b2, hM with
              | .inl v, ho, b2, hM =>
                cases hM
                refine ⟨rfl, _, hstep, hex _ fun ρ' ha => ?_⟩
                obtain ⟨u1, u2, u3, -, -, -, u7⟩ := q ρ' ha
                exact (sgLd_ok u1 u2 u7 u3 ho).2
              | .inr (lo, hi, f), ho, b2, hM =>
                have b2' : (lo ≤ (l.getD x.toNatClampNeg 0).toInt ∧ (l.getD x.toNatClampNeg 0).toInt ≤ hi) ∧ ∀ e, f = some e → (l.getD x.toNatClampNeg 0).toInt ≤ ev ρ e := b2
                have hb := b2'.1
                have hM' : (bif eqI lo hi then some (pc, .inl (false, kL lo) :: r, lv, A, addE tab fs (kL lo) (H :: Hs) pr, nx, tab, fs) else some (resV false 201 [H.1, H.2] lo hi none pc r lv A pr nx tab fs)) = some R := hM
                cases hl : eqI lo hi with
                | true =>
                  rw [hl, cond_true] at hM'
                  cases hM'
                  refine ⟨rfl, _, hstep, hex _ fun ρ' ha => ?_⟩
                  have := eqI_eq hl
                  rw [ev_k]
                  omega
                | false =>
                  rw [hl, cond_false] at hM'
                  cases hM'
                  refine ⟨by unfold resV; split <;> rfl, _, hstep, resV_ok (z := (l.getD x.toNatClampNeg 0).toInt) (fun ρ' ha => ?_) hp (fun ρ' e he => ⟨_, rfl, he⟩) hb.1 hb.2 rfl (fun ρ' ha => ?_) (fun ρ' ha v hv => ?_) (fun ρ' _ e he => (by cases he))⟩
                  · obtain ⟨u1, u2, u3, u4, u5, u6, -⟩ := q ρ' ha
                    exact ⟨u1, u2, u4, u5, u6⟩
                  · show PPk 201 [] [ev ρ' H.1, ev ρ' H.2, _]
                    rw [w201_p]
                    exact hH ρ' ha H List.mem_cons_self
                  · have hv' : PPk 201 [] [ev ρ' H.1, ev ρ' H.2, v] := hv
                    rw [w201_p] at hv'
                    rw [hv']
                    exact (hH ρ' ha H List.mem_cons_self).symm
    · cases hM
  · cases hM
end VMR
/-! ===== views: stores ===== -/
/-- a number with one place changed: the one that a word has told, or a symbol of its own -/
noncomputable def updW (tab : Tb) (fs : List Ln) (X κ v : Ln) (pr : List PD) (nx : Nat) : Option (List PD × Ln × Nat) := match fFn tab fs 202 [X, κ, v] pr with
  | some [Y] => some ([], Y, nx)
  | _ => bif scL nx X then (bif scL nx κ then (bif scL nx v then some ([(202, [], [X, κ, v, sL nx])], sL nx, Nat.succ nx) else none) else none) else none
noncomputable def keep7 (tab : Tb) (fs : List Ln) (e : Ln) (p : PD) : Bool := match p.2.1, p.2.2 with
  | [_], [i, _] => bif le0 tab fs (pluL (subL e i) 1) then true else le0 tab fs (pluL (subL i e) 1)
  | _, _ => false
/-- what a store leaves: new words, those that stay -/
noncomputable def stGo (lg : Bool) (tab : Tb) (fs : List Ln) (a : Nat) (e v : Ln) (x u : Nat) (pr0 : List PD) : List PD → Nat → List PD × List PD × Nat
  | [], nx => ([], [], nx)
  | p :: r, nx => bif memN a p.2.1 then (bif isVw p.1 then (match vwArg p.1 p.2.2 with
      | some (o, X, n) => (match hitF tab fs a e p.2.1 o n (vwT p.1) with
        | some [] => bif (bif grwK p.1 then (match p.2.1, p.2.2 with
            | [_], [_, n'] => bif lnB (isLg p.1) lg then eqL tab fs e n' else false
            | _, _ => false) else false) then (match updW tab fs X n v pr0 nx with
            | some (N, Y, nx1) => (match stGo lg tab fs a e v x u pr0 r nx1 with
              | (N2, K2, nx2) => (N ++ N2, (p.1, p.2.1, [Y, pluL n 1]) :: K2, nx2))
            | none => stGo lg tab fs a e v x u pr0 r nx) else (match stGo lg tab fs a e v x u pr0 r nx with
            | (N2, K2, nx2) => (N2, p :: K2, nx2))
        | some [κ] => (match updW tab fs X κ v pr0 nx with
          | some (N, Y, nx1) => (match stGo lg tab fs a e v x u pr0 r nx1 with
            | (N2, K2, nx2) => (N ++ N2, (p.1, p.2.1, vwSet p.1 p.2.2 Y) :: K2, nx2))
          | none => stGo lg tab fs a e v x u pr0 r nx)
        | _ => stGo lg tab fs a e v x u pr0 r nx)
      | none => stGo lg tab fs a e v x u pr0 r nx) else bif (bif Nat.beq p.1 7 then keep7 tab fs e p else fpOut p.1 p.2.2 x u) then (match stGo lg tab fs a e v x u pr0 r nx with
      | (N2, K2, nx2) => (N2, p :: K2, nx2)) else stGo lg tab fs a e v x u pr0 r nx) else (match stGo lg tab fs a e v x u pr0 r nx with
      | (N2, K2, nx2) => (N2, p :: K2, nx2))
theorem setD {σ : SH} {a q : Nat} {c d : SC} (ha : a < σ.length) : (σ.set a c).getD q d = if q = a then c else σ.getD q d := by
  rw [List.getD_eq_getElem?_getD, List.getD_eq_getElem?_getD]
  by_cases h : q = a
  · subst h
    rw [List.getElem?_set_self ha, if_pos rfl]
    rfl
  · rw [List.getElem?_set_ne (fun z => h z.symm), if_neg h]
theorem getD_set32 (l : List Int32) (a b : Nat) (y : Int32) : (l.set a y).getD b 0 = if a = b ∧ b < l.length then y else l.getD b 0 := by
  rw [List.getD_eq_getElem?_getD, List.getD_eq_getElem?_getD, List.getElem?_set]
  by_cases h : a = b
  · subst h
    by_cases h2 : a < l.length
    · rw [if_pos rfl, if_pos h2, if_pos ⟨rfl, h2⟩]
      rfl
    · rw [if_pos rfl, if_neg h2, if_neg (fun q => h2 q.2), List.getElem?_eq_none (by omega)]
  · rw [if_neg h, if_neg (fun q => h q.1)]
section VST
variable {ρ : Nat → Int} {tab : Tb} {fs : List Ln} {cσ cτ : SH} {pr0 : List PD} {a i x u : Nat} {e v : Ln}
/-- the heap behind one store: what it does to the rows of each kind -/
noncomputable def StH (lg : Bool) (cσ cτ : SH) (a i : Nat) (y : Int) : Prop := (∀ q, q ≠ a → cτ.getD q (.inl (0, [])) = cσ.getD q (.inl (0, []))) ∧ ∀ k, k ≠ 22 → stR (isLg k) (arrK k (cσ.getD a (.inl (0, [])))) (arrK k (cτ.getD a (.inl (0, [])))) i y ∨ (isLg k ≠ lg ∧ arrK k (cσ.getD a (.inl (0, []))) = [] ∧ arrK k (cτ.getD a (.inl (0, []))) = [])
theorem stH_i {q : Nat} {l : List Int32} {y : Int32} (hc : cσ[a]? = some (.inr (q, .inl l))) (hi : i < l.length) : StH false cσ (cσ.set a (.inr (q, .inl (l.set i y)))) a i y.toInt := by
  have ha := (List.getElem?_eq_some_iff.mp hc).1
  have e1 : cσ.getD a (.inl (0, [])) = .inr (q, .inl l) := by rw [List.getD_eq_getElem?_getD, hc]; rfl
  have e2 : (cσ.set a (.inr (q, .inl (l.set i y)))).getD a (.inl (0, [])) = .inr (q, .inl (l.set i y)) := by rw [setD ha, if_pos rfl]
  refine ⟨fun z hz => by rw [setD ha, if_neg hz], fun k hk => ?_⟩
  rw [e1, e2]
  cases hl : isLg k with
  | true => exact Or.inr ⟨by decide, arrK_iL hk hl, arrK_iL hk hl⟩
  | false =>
    rw [arrK_i hk hl, arrK_i hk hl]
    refine Or.inl ⟨show (l.set i y).length = l.length from List.length_set, ⟨i, rfl, hi⟩, fun j hj => ?_⟩
    have hj' : j < l.length := hj
    show ((l.set i y).getD j 0).toInt = if (j : Int) = i then y.toInt else (l.getD j 0).toInt
    rw [getD_set32]
    by_cases h : i = j
    · subst h
      rw [if_pos ⟨rfl, hj'⟩, if_pos rfl]
    · rw [if_neg (fun z => h z.1), if_neg (by omega)]
theorem stH_j {q : Nat} {l : List Int64} {y : Int64} (hc : cσ[a]? = some (.inr (q, .inr (.inl l)))) (hi : i < l.length) : StH true cσ (cσ.set a (.inr (q, .inr (.inl (l.set i y))))) a i y.toInt := by
  have ha := (List.getElem?_eq_some_iff.mp hc).1
  have e1 : cσ.getD a (.inl (0, [])) = .inr (q, .inr (.inl l)) := by rw [List.getD_eq_getElem?_getD, hc]; rfl
  have e2 : (cσ.set a (.inr (q, .inr (.inl (l.set i y))))).getD a (.inl (0, [])) = .inr (q, .inr (.inl (l.set i y))) := by rw [setD ha, if_pos rfl]
  refine ⟨fun z hz => by rw [setD ha, if_neg hz], fun k hk => ?_⟩
  rw [e1, e2]
  cases hl : isLg k with
  | false => exact Or.inr ⟨by decide, arrK_jI hk hl, arrK_jI hk hl⟩
  | true =>
    rw [arrK_j hk hl, arrK_j hk hl]
    refine Or.inl ⟨by rw [rv_longN, rv_longN, List.length_set], ⟨i, rfl, by rw [rv_longN]; exact hi⟩, fun j hj => ?_⟩
    rw [rv_longN] at hj
    rw [rv_long (by rw [List.length_set]; exact hj), rv_long hj, getD_set]
    by_cases h : i = j
    · subst h
      rw [if_pos ⟨rfl, hj⟩, if_pos rfl]
    · rw [if_neg (fun z => h z.1), if_neg (by omega)]
theorem mapR_ne {k : Nat} (hs : ∀ q, q ≠ a → cτ.getD q (.inl (0, [])) = cσ.getD q (.inl (0, []))) {rows : List Nat} (h : a ∉ rows) : rows.map (fun q => arrK k (cτ.getD q (.inl (0, [])))) = rows.map (fun q => arrK k (cσ.getD q (.inl (0, [])))) := List.map_congr_left fun q hq => by
  rw [hs q (fun z => h (z ▸ hq))]
/-- a view that the store does not hit -/
theorem stV0 (ht : tOk ρ tab) (hf : fOk ρ fs) {y : Int} {lg : Bool} (hs : StH lg cσ cτ a i y) (he : ev ρ e = i) {p : PD} {o X n : Ln} (hk : isVw p.1 = true) (hp : PPk p.1 (p.2.1.map (fun q => arrK p.1 (cσ.getD q (.inl (0, []))))) (p.2.2.map (ev ρ))) (ha : vwArg p.1 p.2.2 = some (o, X, n)) (hh : hitF tab fs a e p.2.1 o n (vwT p.1) = some []) : vOk p.1 (p.2.1.map (fun q => arrK p.1 (cτ.getD q (.inl (0, []))))) (ev ρ o) (ev ρ X) (ev ρ n) := by
  have hv := vw_get hk ha hp
  have h22 : p.1 ≠ 22 := by have := isVw_r hk; omega
  rcases hs.2 p.1 h22 with h | ⟨-, h1, h2⟩
  · exact vst0 ht hf hv hh (fun q hq => by rw [hs.1 q hq]) (by rw [he]; exact h)
  · have e1 : p.2.1.map (fun q => arrK p.1 (cτ.getD q (.inl (0, [])))) = p.2.1.map (fun q => arrK p.1 (cσ.getD q (.inl (0, [])))) := List.map_congr_left fun q _ => by
      by_cases hq : q = a
      · subst hq; rw [h1, h2]
      · rw [hs.1 q hq]
    rw [e1]
    exact hv
theorem stV1 (ht : tOk ρ tab) (hf : fOk ρ fs) {y : Int} {lg : Bool} (hs : StH lg cσ cτ a i y) (he : ev ρ e = i) {p : PD} {o X n κ : Ln} (hk : isVw p.1 = true) (hp : PPk p.1 (p.2.1.map (fun q => arrK p.1 (cσ.getD q (.inl (0, []))))) (p.2.2.map (ev ρ))) (ha : vwArg p.1 p.2.2 = some (o, X, n)) (hh : hitF tab fs a e p.2.1 o n (vwT p.1) = some [κ]) : vOk p.1 (p.2.1.map (fun q => arrK p.1 (cτ.getD q (.inl (0, []))))) (ev ρ o) (uX (ev ρ X) (ev ρ κ) y) (ev ρ n) ∧ 0 ≤ ev ρ X ∧ 0 ≤ ev ρ κ := by
  have hv := vw_get hk ha hp
  have h22 : p.1 ≠ 22 := by have := isVw_r hk; omega
  rcases hs.2 p.1 h22 with h | ⟨-, h1, h2⟩
  · exact vst1 ht hf hv hh (fun q hq => by rw [hs.1 q hq]) (by rw [he]; exact h)
  · obtain ⟨i', i1, i2, -⟩ := hit1 ht hf hv hh List.mem_cons_self
    try dsimp only at i2
    rw [h1] at i2
    have : rvN (isLg p.1) [] = 0 := by cases isLg p.1 <;> rfl
    omega
theorem w202_p {X κ v Y : Int} : PPk 202 [] [X, κ, v, Y] = (Y = uX X κ v ∧ 0 ≤ Y ∧ 0 ≤ X) := rfl
/-- the changed number: what is said of it -/
theorem updW_ok {nx : Nat} {X κ : Ln} {N : List PD} {Y : Ln} {nx1 : Nat} (hq : ∀ ρ', agr2 nx ρ ρ' → tOk ρ' tab ∧ fOk ρ' fs ∧ prOk PPk ρ' cσ pr0 ∧ 0 ≤ ev ρ' X) (h : updW tab fs X κ v pr0 nx = some (N, Y, nx1)) : ∃ ρ1, nx ≤ nx1 ∧ agr2 nx ρ ρ1 ∧ ∀ ρ', agr2 nx1 ρ1 ρ' → prOk PPk ρ' cτ N ∧ ev ρ' Y = uX (ev ρ' X) (ev ρ' κ) (ev ρ' v) := by
  unfold updW at h
  split at h
  · rename_i Y' hY
    cases h
    refine ⟨ρ, Nat.le_refl _, agr2.rf, fun ρ' ha => ⟨fun p hp => (by cases hp), ?_⟩⟩
    obtain ⟨q1, q2, q3, q4⟩ := hq ρ' ha
    obtain ⟨ns, n1, n2⟩ := fFn_ok q1 q2 hY
    have h3 : PPk 202 [] (ns.map (ev ρ')) := q3 _ n1
    rw [n2] at h3
    have h4 : PPk 202 [] [ev ρ' X, ev ρ' κ, ev ρ' v, ev ρ' Y] := h3
    rw [w202_p] at h4
    exact h4.1
  · cases s1 : scL nx X with
    | false => rw [s1] at h; cases h
    | true =>
      cases s2 : scL nx κ with
      | false => rw [s1, s2] at h; cases h
      | true =>
        cases s3 : scL nx v with
        | false => rw [s1, s2, s3] at h; cases h
        | true =>
          rw [s1, s2, s3] at h
          cases h
          have hag : ∀ {ρ'}, agr2 (Nat.succ nx) (fun j => if j = nx then uX (ev ρ X) (ev ρ κ) (ev ρ v) else ρ j) ρ' → agr2 nx ρ ρ' ∧ ρ' nx = uX (ev ρ X) (ev ρ κ) (ev ρ v) := fun {ρ'} ha => ⟨fun j hj => (ha j (Nat.lt_succ_of_lt hj)).trans (if_neg (by omega)), (ha nx (Nat.lt_succ_self nx)).trans (if_pos rfl)⟩
          refine ⟨fun j => if j = nx then uX (ev ρ X) (ev ρ κ) (ev ρ v) else ρ j, Nat.le_succ nx, fun j hj => if_neg (by omega), fun ρ' ha => ?_⟩
          obtain ⟨ha0, ha1⟩ := hag ha
          obtain ⟨q1, q2, q3, q4⟩ := hq ρ' ha0
          have e1 : ev ρ' (sL nx) = uX (ev ρ' X) (ev ρ' κ) (ev ρ' v) := by rw [ev_s, ha1, scL_ev ha0 s1, scL_ev ha0 s2, scL_ev ha0 s3]
          refine ⟨fun p hp => ?_, e1⟩
          rw [List.mem_singleton.mp hp]
          show PPk 202 [] [ev ρ' X, ev ρ' κ, ev ρ' v, ev ρ' (sL nx)]
          rw [w202_p, e1]
          exact ⟨rfl, uX_nn _ _ _ q4, q4⟩
theorem gI_out {l : List Int32} {n : Nat} (h : l.length ≤ n) : gI l n = 0 := by
  unfold gI
  rw [List.getD_eq_getElem?_getD, List.getElem?_eq_none h]
  rfl
theorem vwSet_same {k : Nat} {ns : List Ln} {o X n : Ln} (h : vwArg k ns = some (o, X, n)) : vwSet k ns X = ns := by
  unfold vwArg at h
  match ns, h with
  | [Z], h =>
    cases hm : isMd k with
    | true => simp only [hm, cond_true] at h; cases h
    | false => simp only [hm, cond_false] at h; cases h; rfl
  | [a, b], h =>
    cases hm : isMd k with
    | true =>
      simp only [hm, cond_true] at h
      cases h
      unfold vwSet
      rw [hm]
      rfl
    | false =>
      simp only [hm, cond_false] at h
      cases h
      unfold vwSet
      rw [hm]
      rfl
  | [a, b, c], h =>
    cases hm : isMd k with
    | false => simp only [hm, cond_false] at h; cases h
    | true => simp only [hm, cond_true] at h; cases h; rfl
  | [], h => cases h
  | _ :: _ :: _ :: _ :: _, h => cases h
theorem keep7_ok (ht : tOk ρ tab) (hf : fOk ρ fs) {y : Int} {lg : Bool} (hs : StH lg cσ cτ a i y) (he : ev ρ e = i) {p : PD} (hk : p.1 = 7) (hm : a ∈ p.2.1) (hp : PPk p.1 (p.2.1.map (fun q => arrK p.1 (cσ.getD q (.inl (0, []))))) (p.2.2.map (ev ρ))) (h : keep7 tab fs e p = true) : PPk p.1 (p.2.1.map (fun q => arrK p.1 (cτ.getD q (.inl (0, []))))) (p.2.2.map (ev ρ)) := by
  obtain ⟨pk, pl, pn⟩ := p
  try dsimp only at hk hm hp h ⊢
  subst hk
  unfold keep7 at h
  split at h
  · rename_i q j w e1 e2
    try dsimp only at e1 e2
    subst e1; subst e2
    have hqa : a = q := List.mem_singleton.mp hm
    subst hqa
    have hne : ev ρ j ≠ i := by
      cases z : le0 tab fs (pluL (subL e j) 1) with
      | true =>
        have := le0_ok ht hf z
        rw [ev_plu, ev_sub] at this
        omega
      | false =>
        rw [z, cond_false] at h
        have := le0_ok ht hf h
        rw [ev_plu, ev_sub] at this
        omega
    have h1 : okEl (arrK 7 (cσ.getD a (.inl (0, [])))) (ev ρ j) (ev ρ w) := by
      have h0 : (7 = 4 ∧ okCode (arrK 7 (cσ.getD a (.inl (0, [])))) (ev ρ j) (ev ρ w)) ∨ (7 = 7 ∧ okEl (arrK 7 (cσ.getD a (.inl (0, [])))) (ev ρ j) (ev ρ w)) := hp
      rcases h0 with h0 | h0
      · exact absurd h0.1 (by decide)
      · exact h0.2
    refine (show (7 = 4 ∧ okCode (arrK 7 (cτ.getD a (.inl (0, [])))) (ev ρ j) (ev ρ w)) ∨ (7 = 7 ∧ okEl (arrK 7 (cτ.getD a (.inl (0, [])))) (ev ρ j) (ev ρ w)) from Or.inr ⟨rfl, ?_⟩)
    obtain ⟨n, n1, n2⟩ := h1
    refine ⟨n, n1, ?_⟩
    rcases hs.2 7 (by decide) with g | ⟨-, g1, g2⟩
    · have g' : ((arrK 7 (cτ.getD a (.inl (0, [])))).length = (arrK 7 (cσ.getD a (.inl (0, [])))).length) ∧ _ ∧ ∀ z : Nat, z < (arrK 7 (cσ.getD a (.inl (0, [])))).length → gI (arrK 7 (cτ.getD a (.inl (0, [])))) z = if (z : Int) = i then y else gI (arrK 7 (cσ.getD a (.inl (0, [])))) z := g
      rcases Nat.lt_or_ge n (arrK 7 (cσ.getD a (.inl (0, [])))).length with hl | hl
      · have := g'.2.2 n hl
        rw [if_neg (by omega)] at this
        show gI _ n = _
        rw [this]
        exact n2
      · have e0 : gI (arrK 7 (cτ.getD a (.inl (0, [])))) n = gI (arrK 7 (cσ.getD a (.inl (0, [])))) n := by
          rw [gI_out hl, gI_out (by rw [g'.1]; exact hl)]
        show gI _ n = _
        rw [e0]
        exact n2
    · rw [g1] at n2
      rw [g2]
      exact n2
  · cases h
theorem stGo_ok {y : Int} {lg : Bool} (hs : StH lg cσ cτ a i y) : ∀ (l : List PD) (nx : Nat) (ρ : Nat → Int) (N K : List PD) (nx' : Nat), (∀ p ∈ l, p ∈ pr0) → (∀ ρ', agr2 nx ρ ρ' → tOk ρ' tab ∧ fOk ρ' fs ∧ prOk PPk ρ' cσ pr0 ∧ ev ρ' e = i ∧ ev ρ' v = y) → x ≤ i → i ≤ u → (∀ p ∈ l, a ∈ p.2.1 → fpOut p.1 p.2.2 x u = true → ∀ ρ', agr2 nx ρ ρ' → PPk p.1 (p.2.1.map (fun q => arrK p.1 (cτ.getD q (.inl (0, []))))) (p.2.2.map (ev ρ'))) → stGo lg tab fs a e v x u pr0 l nx = (N, K, nx') → ∃ ρ1, nx ≤ nx' ∧ agr2 nx ρ ρ1 ∧ ∀ ρ', agr2 nx' ρ1 ρ' → prOk PPk ρ' cτ N ∧ prOk PPk ρ' cτ K := by
  intro l
  induction l with
  | nil =>
    intro nx ρ N K nx' _ _ _ _ _ h
    cases h
    exact ⟨ρ, Nat.le_refl _, agr2.rf, fun ρ' _ => ⟨fun p hp => (by cases hp), fun p hp => (by cases hp)⟩⟩
  | cons p r ih =>
    intro nx ρ N K nx' hl hq hx hu hfp h
    have hl' : ∀ p ∈ r, p ∈ pr0 := fun p hp => hl p (List.mem_cons_of_mem _ hp)
    have hfp' : ∀ {ρ1 : Nat → Int} {nx1 : Nat}, nx ≤ nx1 → agr2 nx ρ ρ1 → ∀ p ∈ r, a ∈ p.2.1 → fpOut p.1 p.2.2 x u = true → ∀ ρ', agr2 nx1 ρ1 ρ' → PPk p.1 (p.2.1.map (fun q => arrK p.1 (cτ.getD q (.inl (0, []))))) (p.2.2.map (ev ρ')) := fun h1 h2 p hp ha hf ρ' ha' => hfp p (List.mem_cons_of_mem _ hp) ha hf ρ' (fun j hj => (ha' j (by omega)).trans (h2 j hj))
    have hpm := hl p List.mem_cons_self
    -- one word dropped
    have drop : stGo lg tab fs a e v x u pr0 r nx = (N, K, nx') → ∃ ρ1, nx ≤ nx' ∧ agr2 nx ρ ρ1 ∧ ∀ ρ', agr2 nx' ρ1 ρ' → prOk PPk ρ' cτ N ∧ prOk PPk ρ' cτ K := fun h => ih nx ρ N K nx' hl' hq hx hu (hfp' (Nat.le_refl _) agr2.rf) h
    -- one word kept, perhaps another one
    have keep : ∀ (N1 : List PD) (p' : PD) (nx1 : Nat) (N2 K2 : List PD) (nx2 : Nat), stGo lg tab fs a e v x u pr0 r nx1 = (N2, K2, nx2) → (∃ ρ1, nx ≤ nx1 ∧ agr2 nx ρ ρ1 ∧ ∀ ρ', agr2 nx1 ρ1 ρ' → prOk PPk ρ' cτ N1 ∧ PPk p'.1 (p'.2.1.map (fun q => arrK p'.1 (cτ.getD q (.inl (0, []))))) (p'.2.2.map (ev ρ'))) → ∃ ρ1, nx ≤ nx2 ∧ agr2 nx ρ ρ1 ∧ ∀ ρ', agr2 nx2 ρ1 ρ' → prOk PPk ρ' cτ (N1 ++ N2) ∧ prOk PPk ρ' cτ (p' :: K2) := fun N1 p' nx1 N2 K2 nx2 h2 hw => by
      obtain ⟨ρ1, w1, w2, w3⟩ := hw
      obtain ⟨ρ2, g1, g2, g3⟩ := ih nx1 ρ1 N2 K2 nx2 hl' (fun ρ' ha => hq ρ' (fun j hj => (ha j (by omega)).trans (w2 j hj))) hx hu (hfp' w1 w2) h2
      refine ⟨ρ2, by omega, fun j hj => (g2 j (by omega)).trans (w2 j hj), fun ρ' ha => ?_⟩
      obtain ⟨a1, a2⟩ := g3 ρ' ha
      obtain ⟨b1, b2⟩ := w3 ρ' (fun j hj => (ha j (by omega)).trans (g2 j hj))
      exact ⟨fun z hz => (List.mem_append.mp hz).elim (b1 z) (a1 z), List.forall_mem_cons.mpr ⟨b2, a2⟩⟩
    have same : (∀ ρ', agr2 nx ρ ρ' → PPk p.1 (p.2.1.map (fun q => arrK p.1 (cτ.getD q (.inl (0, []))))) (p.2.2.map (ev ρ'))) → ∃ ρ1, nx ≤ nx ∧ agr2 nx ρ ρ1 ∧ ∀ ρ', agr2 nx ρ1 ρ' → prOk PPk ρ' cτ [] ∧ PPk p.1 (p.2.1.map (fun q => arrK p.1 (cτ.getD q (.inl (0, []))))) (p.2.2.map (ev ρ')) := fun h => ⟨ρ, Nat.le_refl _, agr2.rf, fun ρ' ha => ⟨fun z hz => (by cases hz), h ρ' ha⟩⟩
    unfold stGo at h
    cases hm : memN a p.2.1 with
    | false =>
      rw [hm, cond_false] at h
      have hna : a ∉ p.2.1 := fun z => by rw [memN_iff.mpr z] at hm; cases hm
      split at h
      rename_i N2 K2 nx2 h2
      cases h
      refine keep [] p nx N K2 nx' h2 (same fun ρ' ha => ?_)
      rw [mapR_ne hs.1 hna]
      exact (hq ρ' ha).2.2.1 p hpm
    | true =>
      rw [hm, cond_true] at h
      have hma := memN_iff.mp hm
      cases hv : isVw p.1 with
      | false =>
        rw [hv, cond_false] at h
        cases h7 : (bif Nat.beq p.1 7 then keep7 tab fs e p else fpOut p.1 p.2.2 x u) with
        | false => rw [h7, cond_false] at h; exact drop h
        | true =>
          rw [h7, cond_true] at h
          split at h
          rename_i N2 K2 nx2 h2
          cases h
          refine keep [] p nx N K2 nx' h2 (same fun ρ' ha => ?_)
          obtain ⟨t1, t2, t3, t4, -⟩ := hq ρ' ha
          cases hb : Nat.beq p.1 7 with
          | true =>
            rw [hb, cond_true] at h7
            exact keep7_ok t1 t2 hs t4 (Nat.eq_of_beq_eq_true hb) hma (t3 p hpm) h7
          | false =>
            rw [hb, cond_false] at h7
            exact hfp p List.mem_cons_self hma h7 ρ' ha
      | true =>
        rw [hv, cond_true] at h
        split at h
        · rename_i o X n hva
          split at h
          · rename_i hh
            cases hg : (bif grwK p.1 then (match p.2.1, p.2.2 with
                | [_], [_, n'] => bif lnB (isLg p.1) lg then eqL tab fs e n' else false
                | _, _ => false) else false) with
            | false =>
              rw [hg, cond_false] at h
              split at h
              rename_i N2 K2 nx2 h2
              cases h
              refine keep [] p nx N K2 nx' h2 (same fun ρ' ha => ?_)
              obtain ⟨t1, t2, t3, t4, -⟩ := hq ρ' ha
              have e1 := vwSet_same hva
              have := vw_put (Y := X) hv hva (stV0 t1 t2 hs t4 hv (t3 p hpm) hva hh)
              rw [e1] at this
              exact this
            | true =>
              rw [hg, cond_true] at h
              obtain ⟨g1, g2⟩ := cand hg
              split at h
              · rename_i N1 Y nx1 hupd
                split at h
                rename_i N2 K2 nx2 h2
                cases h
                obtain ⟨pk, pl, pn⟩ := p
                try dsimp only at g1 g2 hva hh hv hma hpm ⊢
                split at g2
                · rename_i q X' n'
                  try dsimp only at *
                  have hqa : a = q := List.mem_singleton.mp hma
                  subst hqa
                  obtain ⟨gT, gM⟩ := grw_T g1
                  obtain ⟨g3, g4⟩ := cand g2
                  have hva' : (bif isMd pk then some (X', n', kL 0) else some (kL 0, X', n')) = some (o, X, n) := hva
                  rw [gM] at hva'
                  cases hva'
                  refine keep N1 (pk, [a], [Y, pluL n 1]) nx1 N2 K2 nx' h2 ?_
                  have hq2 : ∀ ρ', agr2 nx ρ ρ' → vOk pk ([a].map (fun q => arrK pk (cτ.getD q (.inl (0, []))))) 0 (uX (ev ρ' X) (ev ρ' n) (ev ρ' v)) (ev ρ' n + 1) ∧ 0 ≤ ev ρ' X := fun ρ' ha => by
                    obtain ⟨t1, t2, t3, t4, t5⟩ := hq ρ' ha
                    have hv0 := vw_get hv hva (t3 _ hpm)
                    try dsimp only at hv0
                    rw [ev_k] at hv0
                    have h22 : pk ≠ 22 := by have := isVw_r hv; omega
                    rcases hs.2 pk h22 with h | ⟨h0, -⟩
                    · have h3 := vstG (G := fun q => arrK pk (cτ.getD q (.inl (0, [])))) (v := y) g1 hv0 (eqL_ok t1 t2 g4) (by rw [t4]; exact h)
                      rw [← t5] at h3
                      exact ⟨h3.1, h3.2.1⟩
                    · exact absurd (lnB_eq g3) h0
                  obtain ⟨ρ1, u1, u2, u3⟩ := updW_ok (cτ := cτ) (fun ρ' ha => by
                    obtain ⟨t1, t2, t3, -, -⟩ := hq ρ' ha
                    exact ⟨t1, t2, t3, (hq2 ρ' ha).2⟩) hupd
                  refine ⟨ρ1, u1, u2, fun ρ' ha => ?_⟩
                  obtain ⟨b1, b2⟩ := u3 ρ' ha
                  refine ⟨b1, ?_⟩
                  have h4 := (hq2 ρ' (fun j hj => (ha j (by omega)).trans (u2 j hj))).1
                  rw [← b2] at h4
                  show PPk pk _ [ev ρ' Y, ev ρ' (pluL n 1)]
                  rw [ev_plu, ppk_v hv]
                  exact Or.inr ⟨gM, h4⟩
                · cases g2
              · exact drop h
          · rename_i κ hh
            split at h
            · rename_i N1 Y nx1 hupd
              split at h
              rename_i N2 K2 nx2 h2
              cases h
              refine keep N1 _ nx1 N2 K2 nx' h2 ?_
              have hq2 : ∀ ρ', agr2 nx ρ ρ' → vOk p.1 (p.2.1.map (fun q => arrK p.1 (cτ.getD q (.inl (0, []))))) (ev ρ' o) (uX (ev ρ' X) (ev ρ' κ) (ev ρ' v)) (ev ρ' n) ∧ 0 ≤ ev ρ' X := fun ρ' ha => by
                obtain ⟨t1, t2, t3, t4, t5⟩ := hq ρ' ha
                obtain ⟨s1, s2, s3⟩ := stV1 t1 t2 hs t4 hv (t3 p hpm) hva hh
                rw [t5]
                exact ⟨s1, s2⟩
              obtain ⟨ρ1, u1, u2, u3⟩ := updW_ok (cτ := cτ) (fun ρ' ha => by
                obtain ⟨t1, t2, t3, -, -⟩ := hq ρ' ha
                exact ⟨t1, t2, t3, (hq2 ρ' ha).2⟩) hupd
              refine ⟨ρ1, u1, u2, fun ρ' ha => ?_⟩
              obtain ⟨b1, b2⟩ := u3 ρ' ha
              refine ⟨b1, vw_put hv hva ?_⟩
              rw [b2]
              exact (hq2 ρ' (fun j hj => (ha j (by omega)).trans (u2 j hj))).1
            · exact drop h
          · exact drop h
        · exact drop h
end VST
/-- a counted view whose next place this is -/
noncomputable def nxtP (tab : Tb) (fs : List Ln) (a : Nat) (e : Ln) (rows : List Nat) (o n : Ln) : List VP → Bool
  | [] => false
  | p :: r => bif (match p.2.2.2.2.2, rows[p.1]? with
    | none, some q => bif Nat.beq q a then eqL tab fs (subL e (pluL o (.ofNat p.2.1))) (sclL (.ofNat p.2.2.1) n) else false
    | _, _ => false) then true else nxtP tab fs a e rows o n r
noncomputable def nxtV (tab : Tb) (fs : List Ln) (a : Nat) (e : Ln) : List PD → Bool
  | [] => false
  | p :: r => bif (bif (bif isVw p.1 then memN a p.2.1 else false) then (match vwArg p.1 p.2.2 with
    | some (o, _, n) => nxtP tab fs a e p.2.1 o n (vwT p.1)
    | none => false) else false) then true else nxtV tab fs a e r
noncomputable def anyV (a : Nat) : List PD → Bool
  | [] => false
  | p :: r => bif (bif isVw p.1 then memN a p.2.1 else false) then true else anyV a r
noncomputable def mvStI (pc : Nat) (st : List AV) (lv : AL) (A : AH) (pr : List PD) (nx : Nat) (tab : Tb) (fs : List Ln) : Option MR := match st with
  | .inl (false, v) :: .inl (false, e) :: .inr (.inl (some a)) :: r => (match A[a]?, idxR tab fs e with
    | some (.inr (k, .inl s)), some (x, u) => bif (bif Nat.beq k 0 then anyV a pr else false) then (match sgSto tab fs e v s with
      | some s' => (match stGo false tab fs a e v x u pr pr nx with
        | (N, K, nx') => some (pc, r, lv, A.set a (.inr (k, .inl s')), (bif nxtV tab fs a e pr then (7, [a], [e, v]) :: (N ++ K) else N ++ K), nx', tab, fs))
      | none => none) else none
    | _, _ => none)
  | _ => none
section VMS
variable {ρ : Nat → Int} {nx : Nat} {tab : Tb} {fs : List Ln} {rest : List AV} {lv : AL} {A : AH} {pr : List PD} {cr : List Value} {clv : LV} {cσ : SH}
theorem mvStI_ok {pc : Nat} {st : List AV} {cst : List Value} {R : MR} (hM : mvStI pc st lv A pr nx tab fs = some R) (hr : ∀ ρ', agr2 nx ρ ρ' → tOk ρ' tab ∧ fOk ρ' fs ∧ rel2 (vrel ρ') cst st ∧ lvR ρ' clv lv ∧ rel2 (crel ρ') cσ A) (hp : ∀ ρ', agr2 nx ρ ρ' → prOk PPk ρ' cσ pr) : R.1 = pc ∧ ∃ cst' cτ, sI 0 .int cst cσ = some (cst', cτ) ∧ cτ.length = cσ.length ∧ MvG ρ nx cst' clv cτ R := by
  unfold mvStI at hM
  split at hM
  · rename_i v e a r
    split at hM
    · rename_i k s x u hA hix
      cases hk : (bif Nat.beq k 0 then anyV a pr else false) with
      | false => rw [hk] at hM; cases hM
      | true =>
        rw [hk, cond_true] at hM
        have ek := Nat.eq_of_beq_eq_true (cand hk).1
        subst ek
        split at hM
        · rename_i s' hs'
          split at hM
          rename_i N K nx' hgo
          cases hM
          obtain ⟨t1, t2, t3, t4, t5⟩ := hr ρ agr2.rf
          obtain ⟨v0, c0, e0, h0, hs0⟩ := rel2_cons t3
          obtain ⟨v1, c1, e1, h1, hs1⟩ := rel2_cons hs0
          obtain ⟨v2, c2, e2, h2, hs2⟩ := rel2_cons hs1
          obtain ⟨y, e3', h0'⟩ := vI_inv h0
          obtain ⟨z, e3, h3⟩ := vI_inv h1
          have e4 := vR_inv h2
          subst e0; subst e1; subst e2; subst e3; subst e3'; subst e4
          obtain ⟨cc, hc1, hc2⟩ := rel2_get t5 hA
          obtain ⟨l, e5, h5⟩ := crI_inv (by omega) hc2
          subst e5
          have q : ∀ ρ', agr2 nx ρ ρ' → tOk ρ' tab ∧ fOk ρ' fs ∧ z.toInt = ev ρ' e ∧ y.toInt = ev ρ' v ∧ rel2 (vrel ρ') c2 r ∧ lvR ρ' clv lv ∧ rel2 (crel ρ') cσ A ∧ srel ρ' s l := fun ρ' ha => by
            obtain ⟨u1, u2, u3, u4, u5⟩ := hr ρ' ha
            obtain ⟨w0, d0, f0, g0, hs0'⟩ := rel2_cons u3
            cases f0
            obtain ⟨w1, d1, f1, g1, hs1'⟩ := rel2_cons hs0'
            cases f1
            obtain ⟨w2, d2, f2, g2, hs2'⟩ := rel2_cons hs1'
            cases f2
            obtain ⟨y', f3, g3⟩ := vI_inv g0
            cases f3
            obtain ⟨z', f4, g4⟩ := vI_inv g1
            cases f4
            obtain ⟨cc', k1, k2⟩ := rel2_get u5 hA
            rw [hc1] at k1
            cases k1
            obtain ⟨l', k3, k4⟩ := crI_inv (by omega) k2
            cases k3
            exact ⟨u1, u2, g4, g3, hs2', u4, u5, k4⟩
          obtain ⟨b1, -⟩ := sgSto_ok t1 t2 h5 h3 h0' hs'
          obtain ⟨i0, i1, i2⟩ := idxR_ok t1 t2 h3 hix
          have hz0 : 0 ≤ z.toInt := Int32.le_iff_toInt_le.mp i0
          have hzl : z.toNatClampNeg < l.length := by
            unfold inB at b1
            rw [Bool.and_eq_true] at b1
            exact of_decide_eq_true b1.2
          have hzn : ∀ ρ', agr2 nx ρ ρ' → ev ρ' e = ((z.toNatClampNeg : Nat) : Int) := fun ρ' ha => by
            obtain ⟨-, -, u3, -⟩ := q ρ' ha
            rw [← u3]
            show z.toInt = ((z.toInt.toNat : Nat) : Int)
            omega
          have hH := stH_i (y := y) hc1 hzl
          have hfp : ∀ p ∈ pr, a ∈ p.2.1 → fpOut p.1 p.2.2 x u = true → ∀ ρ', agr2 nx ρ ρ' → PPk p.1 (p.2.1.map (fun q => arrK p.1 ((cσ.set a (.inr (0, .inl (l.set z.toNatClampNeg y)))).getD q (.inl (0, []))))) (p.2.2.map (ev ρ')) := fun p hpm _ hf ρ' ha => by
            have hd : prDelR a x u [p] = [p] := by
              rw [prDelR_def]
              try dsimp only
              rw [hf]
              cases memN a p.2.1 <;> rfl
            have h1 : prOk PPk ρ' cσ [p] := fun w hw => by
              rw [List.mem_singleton.mp hw]
              exact hp ρ' ha p hpm
            exact prOk_setR fpk h1 hc1 i1 i2 p (by rw [hd]; exact List.mem_singleton.mpr rfl)
          obtain ⟨ρ1, r1, r2, r3⟩ := stGo_ok hH pr nx ρ N K nx' (fun p h => h) (fun ρ' ha => by
            obtain ⟨u1, u2, u3, u4, -⟩ := q ρ' ha
            exact ⟨u1, u2, hp ρ' ha, hzn ρ' ha, u4.symm⟩) i1 i2 hfp hgo
          refine ⟨rfl, c2, cσ.set a (.inr (0, .inl (l.set z.toNatClampNeg y))), ?_, List.length_set, ρ1, r1, r2, fun ρ' ha => ?_, fun ρ' ha => ?_⟩
          · unfold sI
            simp only [hc1]
            rw [if_pos ⟨trivial, b1⟩]
            rfl
          · obtain ⟨u1, u2, u3, u4, u5, u6, u7, u8⟩ := q ρ' (fun j hj => (ha j (Nat.lt_of_lt_of_le hj r1)).trans (r2 j hj))
            exact ⟨u1, u2, u5, u6, rel2_set u7 (arel_mk (by omega) (sgSto_ok u1 u2 u8 u3 u4 hs').2)⟩
          · obtain ⟨g1, g2⟩ := r3 ρ' ha
            have hNK : prOk PPk ρ' (cσ.set a (.inr (0, .inl (l.set z.toNatClampNeg y)))) (N ++ K) := fun p hpm => (List.mem_append.mp hpm).elim (g1 p) (g2 p)
            show prOk PPk ρ' _ (bif nxtV tab fs a e pr then (7, [a], [e, v]) :: (N ++ K) else N ++ K)
            cases nxtV tab fs a e pr with
            | false => exact hNK
            | true =>
              refine List.forall_mem_cons.mpr ⟨?_, hNK⟩
              have ha' : agr2 nx ρ ρ' := fun j hj => (ha j (Nat.lt_of_lt_of_le hj r1)).trans (r2 j hj)
              obtain ⟨-, -, u3, u4, -⟩ := q ρ' ha'
              have hlt := (List.getElem?_eq_some_iff.mp hc1).1
              refine (show (7 = 4 ∧ okCode (arrK 7 ((cσ.set a (.inr (0, .inl (l.set z.toNatClampNeg y)))).getD a (.inl (0, [])))) (ev ρ' e) (ev ρ' v)) ∨ (7 = 7 ∧ okEl (arrK 7 ((cσ.set a (.inr (0, .inl (l.set z.toNatClampNeg y)))).getD a (.inl (0, [])))) (ev ρ' e) (ev ρ' v)) from Or.inr ⟨rfl, z.toNatClampNeg, hzn ρ' ha', ?_⟩)
              rw [setD hlt, if_pos rfl]
              show ((l.set z.toNatClampNeg y).getD z.toNatClampNeg 0).toInt = _
              rw [getD_set32, if_pos ⟨rfl, hzl⟩]
              exact u4
        · cases hM
    · cases hM
  · cases hM
end VMS
/-! ===== views: long rows, operations ===== -/
noncomputable def mvLdJ (pc : Nat) (st : List AV) (lv : AL) (A : AH) (pr : List PD) (nx : Nat) (tab : Tb) (fs : List Ln) : Option MR := match st with
  | .inl (false, e) :: .inr (.inl (some a)) :: r => (match A[a]?, idxR tab fs e with
    | some (.inr (k, .inr (.inl m))), some (_, u) => bif (bif Nat.beq k 1 then Nat.blt u (jLen m) else false) then (match ldHs tab fs a e pr with
      | [] => none
      | H :: _ => some (resV true 201 [H.1, H.2] lo64 hi64 none pc r lv A pr nx tab fs)) else none
    | _, _ => none)
  | _ => none
noncomputable def mvStJ (pc : Nat) (st : List AV) (lv : AL) (A : AH) (pr : List PD) (nx : Nat) (tab : Tb) (fs : List Ln) : Option MR := match st with
  | .inl (true, v) :: .inl (false, e) :: .inr (.inl (some a)) :: r => (match A[a]?, idxR tab fs e with
    | some (.inr (k, .inr (.inl m))), some (_, u) => bif (bif (bif Nat.beq k 1 then Nat.blt u (jLen m) else false) then (bif Nat.blt (jLen m) zB then anyV a pr else false) else false) then (match stGo true tab fs a e v 0 0 (pr.filter (fun p => isVw p.1 || !memN a p.2.1)) (pr.filter (fun p => isVw p.1 || !memN a p.2.1)) nx with
      | (N, K, nx') => some (pc, r, lv, A.set a (.inr (k, .inr (.inl (jSt tab m v)))), N ++ K, nx', tab, fs)) else none
    | _, _ => none)
  | _ => none
section VMJ
variable {ρ : Nat → Int} {nx : Nat} {tab : Tb} {fs : List Ln} {rest : List AV} {lv : AL} {A : AH} {pr : List PD} {cr : List Value} {clv : LV} {cσ : SH}
theorem mvLdJ_ok {pc : Nat} {st : List AV} {cst : List Value} {R : MR} (hM : mvLdJ pc st lv A pr nx tab fs = some R) (hr : ∀ ρ', agr2 nx ρ ρ' → tOk ρ' tab ∧ fOk ρ' fs ∧ rel2 (vrel ρ') cst st ∧ lvR ρ' clv lv ∧ rel2 (crel ρ') cσ A) (hp : ∀ ρ', agr2 nx ρ ρ' → prOk PPk ρ' cσ pr) : R.1 = pc ∧ ∃ cst', stepD none .laload 0 0 cst cσ = some cst' ∧ MvG ρ nx cst' clv cσ R := by
  unfold mvLdJ at hM
  split at hM
  · rename_i e a r
    split at hM
    · rename_i k m x u hA hix
      cases hk : (bif Nat.beq k 1 then Nat.blt u (jLen m) else false) with
      | false => rw [hk] at hM; cases hM
      | true =>
        rw [hk, cond_true] at hM
        obtain ⟨k1, k2⟩ := cand hk
        have ek := Nat.eq_of_beq_eq_true k1
        subst ek
        have hul := blt_iff.mp k2
        split at hM
        · cases hM
        · rename_i H Hs hHs
          cases hM
          obtain ⟨t1, t2, t3, t4, t5⟩ := hr ρ agr2.rf
          obtain ⟨v1, c1, e1, h1, hs1⟩ := rel2_cons t3
          obtain ⟨v2, c2, e2, h2, hs2⟩ := rel2_cons hs1
          obtain ⟨z, e3, h3⟩ := vI_inv h1
          have e4 := vR_inv h2
          subst e1; subst e2; subst e3; subst e4
          obtain ⟨cc, hc1, hc2⟩ := rel2_get t5 hA
          obtain ⟨l, e5, h5⟩ := crJ_inv hc2
          subst e5
          have q : ∀ ρ', agr2 nx ρ ρ' → tOk ρ' tab ∧ fOk ρ' fs ∧ z.toInt = ev ρ' e ∧ rel2 (vrel ρ') c2 r ∧ lvR ρ' clv lv ∧ rel2 (crel ρ') cσ A := fun ρ' ha => by
            obtain ⟨u1, u2, u3, u4, u5⟩ := hr ρ' ha
            obtain ⟨w1, d1, f1, g1, hs1'⟩ := rel2_cons u3
            cases f1
            obtain ⟨w2, d2, f2, g2, hs2'⟩ := rel2_cons hs1'
            cases f2
            obtain ⟨x', f3, g3⟩ := vI_inv g1
            cases f3
            exact ⟨u1, u2, g3, hs2', u4, u5⟩
          obtain ⟨i0, i1, i2⟩ := idxR_ok t1 t2 h3 hix
          have hz0 : 0 ≤ z.toInt := Int32.le_iff_toInt_le.mp i0
          have hzl : z.toNatClampNeg < l.length := by rw [h5.1]; omega
          have hzn : ∀ ρ', agr2 nx ρ ρ' → ev ρ' e = ((z.toNatClampNeg : Nat) : Int) := fun ρ' ha => by
            obtain ⟨-, -, u3, -⟩ := q ρ' ha
            rw [← u3]
            show z.toInt = ((z.toInt.toNat : Nat) : Int)
            omega
          have hin : inB z l.length = true := by
            unfold inB
            rw [decide_eq_true i0, decide_eq_true hzl]
            rfl
          have hH : ∀ ρ', agr2 nx ρ ρ' → (l.getD z.toNatClampNeg 0).toInt = gX (ev ρ' H.1) (ev ρ' H.2) := fun ρ' ha => by
            obtain ⟨u1, u2, -⟩ := q ρ' ha
            exact (ldHs_j u1 u2 (hp ρ' ha) hc1 (by rw [hHs]; exact List.mem_cons_self) (hzn ρ' ha)).2
          refine ⟨by unfold resV; split <;> rfl, .long (l.getD z.toNatClampNeg 0) :: c2, ?_, resV_ok (z := (l.getD z.toNatClampNeg 0).toInt) (fun ρ' ha => ?_) hp (fun ρ' e he => ⟨_, rfl, he⟩) (in64 _).1 (in64 _).2 rfl (fun ρ' ha => ?_) (fun ρ' ha v hv => ?_) (fun ρ' _ e he => (by cases he))⟩
          · simp only [stepD, hc1]
            rw [if_pos ⟨trivial, hin⟩]
          · obtain ⟨u1, u2, u3, u4, u5, u6⟩ := q ρ' ha
            exact ⟨u1, u2, u4, u5, u6⟩
          · show PPk 201 [] [ev ρ' H.1, ev ρ' H.2, _]
            rw [w201_p]
            exact hH ρ' ha
          · have hv' : PPk 201 [] [ev ρ' H.1, ev ρ' H.2, v] := hv
            rw [w201_p] at hv'
            rw [hv']
            exact (hH ρ' ha).symm
    · cases hM
  · cases hM
theorem mvStJ_ok {pc : Nat} {st : List AV} {cst : List Value} {R : MR} (hM : mvStJ pc st lv A pr nx tab fs = some R) (hr : ∀ ρ', agr2 nx ρ ρ' → tOk ρ' tab ∧ fOk ρ' fs ∧ rel2 (vrel ρ') cst st ∧ lvR ρ' clv lv ∧ rel2 (crel ρ') cσ A) (hp : ∀ ρ', agr2 nx ρ ρ' → prOk PPk ρ' cσ pr) : R.1 = pc ∧ ∃ cst' cτ, stepE false 0 .lastore 0 0 cst cσ = some (cst', cτ) ∧ cτ.length = cσ.length ∧ MvG ρ nx cst' clv cτ R := by
  unfold mvStJ at hM
  split at hM
  · rename_i v e a r
    split at hM
    · rename_i k m x u hA hix
      cases hk : (bif (bif Nat.beq k 1 then Nat.blt u (jLen m) else false) then (bif Nat.blt (jLen m) zB then anyV a pr else false) else false) with
      | false => rw [hk] at hM; cases hM
      | true =>
        rw [hk, cond_true] at hM
        obtain ⟨k1, k2⟩ := cand hk
        obtain ⟨k1, k3⟩ := cand k1
        obtain ⟨k4, -⟩ := cand k2
        have ek := Nat.eq_of_beq_eq_true k1
        subst ek
        have hul := blt_iff.mp k3
        split at hM
        rename_i N K nx' hgo
        cases hM
        obtain ⟨t1, t2, t3, t4, t5⟩ := hr ρ agr2.rf
        obtain ⟨v0, c0, e0, h0, hs0⟩ := rel2_cons t3
        obtain ⟨v1, c1, e1, h1, hs1⟩ := rel2_cons hs0
        obtain ⟨v2, c2, e2, h2, hs2⟩ := rel2_cons hs1
        obtain ⟨y, e3', h0'⟩ := vJ_inv h0
        obtain ⟨z, e3, h3⟩ := vI_inv h1
        have e4 := vR_inv h2
        subst e0; subst e1; subst e2; subst e3; subst e3'; subst e4
        obtain ⟨cc, hc1, hc2⟩ := rel2_get t5 hA
        obtain ⟨l, e5, h5⟩ := crJ_inv hc2
        subst e5
        have q : ∀ ρ', agr2 nx ρ ρ' → tOk ρ' tab ∧ fOk ρ' fs ∧ z.toInt = ev ρ' e ∧ y.toInt = ev ρ' v ∧ rel2 (vrel ρ') c2 r ∧ lvR ρ' clv lv ∧ rel2 (crel ρ') cσ A ∧ jOk m l := fun ρ' ha => by
          obtain ⟨u1, u2, u3, u4, u5⟩ := hr ρ' ha
          obtain ⟨w0, d0, f0, g0, hs0'⟩ := rel2_cons u3
          cases f0
          obtain ⟨w1, d1, f1, g1, hs1'⟩ := rel2_cons hs0'
          cases f1
          obtain ⟨w2, d2, f2, g2, hs2'⟩ := rel2_cons hs1'
          cases f2
          obtain ⟨y', f3, g3⟩ := vJ_inv g0
          cases f3
          obtain ⟨z', f4, g4⟩ := vI_inv g1
          cases f4
          exact ⟨u1, u2, g4, g3, hs2', u4, u5, h5⟩
        obtain ⟨i0, i1, i2⟩ := idxR_ok t1 t2 h3 hix
        have hz0 : 0 ≤ z.toInt := Int32.le_iff_toInt_le.mp i0
        have hzl : z.toNatClampNeg < l.length := by rw [h5.1]; omega
        have hzn : ∀ ρ', agr2 nx ρ ρ' → ev ρ' e = ((z.toNatClampNeg : Nat) : Int) := fun ρ' ha => by
          obtain ⟨-, -, u3, -⟩ := q ρ' ha
          rw [← u3]
          show z.toInt = ((z.toInt.toNat : Nat) : Int)
          omega
        have hin : inB z l.length = true := by
          unfold inB
          rw [decide_eq_true i0, decide_eq_true hzl]
          rfl
        have hH := stH_j (y := y) hc1 hzl
        have hpf : ∀ ρ', agr2 nx ρ ρ' → prOk PPk ρ' cσ (pr.filter (fun p => isVw p.1 || !memN a p.2.1)) := fun ρ' ha p hpm => hp ρ' ha p (List.mem_filter.mp hpm).1
        obtain ⟨ρ1, r1, r2, r3⟩ := stGo_ok (x := z.toNatClampNeg) (u := z.toNatClampNeg) hH _ nx ρ N K nx' (fun p h => h) (fun ρ' ha => by
          obtain ⟨u1, u2, u3, u4, -⟩ := q ρ' ha
          exact ⟨u1, u2, hpf ρ' ha, hzn ρ' ha, u4.symm⟩) (Nat.le_refl _) (Nat.le_refl _) (fun p hpm hma hf => by
          have h6 := (List.mem_filter.mp hpm).2
          rw [memN_iff.mpr hma] at h6
          have h7 : isVw p.1 = true := by
            cases hz : isVw p.1 with
            | true => rfl
            | false => rw [hz] at h6; cases h6
          obtain ⟨g1, g2⟩ := isVw_r h7
          rw [fpOut_hi (by omega) (by omega)] at hf
          cases hf) (by
          have hsame : ∀ (l : List PD) (nx : Nat), (∀ p ∈ l, a ∈ p.2.1 → isVw p.1 = true) → ∀ x u x' u', stGo true tab fs a e v x u (pr.filter (fun p => isVw p.1 || !memN a p.2.1)) l nx = stGo true tab fs a e v x' u' (pr.filter (fun p => isVw p.1 || !memN a p.2.1)) l nx := by
            intro l
            induction l with
            | nil => intro nx _ x u x' u'; rfl
            | cons p s ih =>
              intro nx hs x u x' u'
              have hs' : ∀ p ∈ s, a ∈ p.2.1 → isVw p.1 = true := fun p hp => hs p (List.mem_cons_of_mem _ hp)
              have e : stGo true tab fs a e v x u (pr.filter (fun p => isVw p.1 || !memN a p.2.1)) s = stGo true tab fs a e v x' u' (pr.filter (fun p => isVw p.1 || !memN a p.2.1)) s := funext fun nx => ih nx hs' x u x' u'
              unfold stGo
              rw [e]
              cases hm : memN a p.2.1 with
              | false => rfl
              | true => rw [hs p List.mem_cons_self (memN_iff.mp hm)]; rfl
          rw [hsame _ nx (fun p hpm hma => by
            have h6 := (List.mem_filter.mp hpm).2
            rw [memN_iff.mpr hma] at h6
            cases hz : isVw p.1 with
            | true => rfl
            | false => rw [hz] at h6; cases h6) _ _ 0 0]
          exact hgo)
        refine ⟨rfl, c2, cσ.set a (.inr (1, .inr (.inl (l.set z.toNatClampNeg y)))), ?_, List.length_set, ρ1, r1, r2, fun ρ' ha => ?_, fun ρ' ha => ?_⟩
        · simp only [stepE, hc1]
          rw [if_pos ⟨trivial, hin⟩]
        · obtain ⟨u1, u2, u3, u4, u5, u6, u7, u8⟩ := q ρ' (fun j hj => (ha j (Nat.lt_of_lt_of_le hj r1)).trans (r2 j hj))
          exact ⟨u1, u2, u5, u6, rel2_set u7 ⟨_, rfl, jSt_ok u1 u8 u4 k4⟩⟩
        · obtain ⟨g1, g2⟩ := r3 ρ' ha
          exact fun p hpm => (List.mem_append.mp hpm).elim (g1 p) (g2 p)
    · cases hM
  · cases hM
end VMJ
noncomputable def ow2 (lg : Bool) (f : Ln → Ln → Ln × Ln × Ln) (st : List AV) : Option (Ln × Ln × Ln) := match st with
  | .inl (b, y) :: .inl (c, x) :: _ => bif lnB b lg then (bif lnB c lg then some (f x y) else none) else none
  | _ => none
noncomputable def ow1 (lg : Bool) (f : Ln → Ln × Ln × Ln) (st : List AV) : Option (Ln × Ln × Ln) := match st with
  | .inl (b, x) :: _ => bif lnB b lg then some (f x) else none
  | _ => none
noncomputable def opW (i : Instr) (tab : Tb) (st : List AV) : Option (Ln × Ln × Ln) := match i with
  | .iadd => ow2 false (fun x y => (kL 1, addL x y, kL 0)) st
  | .isub => ow2 false (fun x y => (kL 1, subL x y, kL 0)) st
  | .imul => ow2 false (fun x y => match aMulE tab x y with
    | some l => (kL 1, l, kL 0)
    | none => (kL 3, x, y)) st
  | .idiv => ow2 false (fun x y => (kL 5, x, y)) st
  | .irem => ow2 false (fun x y => (kL 6, x, y)) st
  | .iand => ow2 false (fun x y => (kL 7, x, y)) st
  | .ior => ow2 false (fun x y => (kL 8, x, y)) st
  | .ixor => ow2 false (fun x y => (kL 9, x, y)) st
  | .ishl => ow2 false (fun x y => (kL 10, x, y)) st
  | .ishr => ow2 false (fun x y => (kL 11, x, y)) st
  | .iushr => ow2 false (fun x y => (kL 12, x, y)) st
  | .ladd => ow2 true (fun x y => (kL 2, addL x y, kL 0)) st
  | .lsub => ow2 true (fun x y => (kL 2, subL x y, kL 0)) st
  | .lmul => ow2 true (fun x y => match aMulE tab x y with
    | some l => (kL 2, l, kL 0)
    | none => (kL 4, x, y)) st
  | .ldiv => ow2 true (fun x y => (kL 13, x, y)) st
  | .ineg => ow1 false (fun x => (kL 1, sclL (.negSucc 0) x, kL 0)) st
  | .lneg => ow1 true (fun x => (kL 2, sclL (.negSucc 0) x, kL 0)) st
  | .l2i => ow1 true (fun x => (kL 1, x, kL 0)) st
  | _ => none
noncomputable def mvOp (i : Instr) (a pc : Nat) (st : List AV) (lv : AL) (A : AH) (pr : List PD) (nx : Nat) (tab : Tb) (fs : List Ln) : Option MR := match g0 i a tab fs lv st with
  | some (rest, .inr (lg, .inr (lo, hi, f))) => (match opW i tab st with
    | some (op, x, y) => some (resV lg 200 [op, x, y] lo hi f pc rest lv A pr nx tab fs)
    | none => none)
  | _ => none
theorem w200_p {op x y r : Int} : PPk 200 [] [op, x, y, r] = (r = valZ op x y) := rfl
section VMO
variable {ρ : Nat → Int} {nx : Nat} {tab : Tb} {fs : List Ln} {rest st : List AV} {lv : AL} {A : AH} {pr : List PD} {cst cr : List Value} {clv : LV} {cσ : SH}
theorem ow2I {f : Ln → Ln → Ln × Ln × Ln} {w : Ln × Ln × Ln} (hs : rel2 (vrel ρ) cst st) (h : ow2 false f st = some w) : ∃ (X Y : Int32) (x y : Ln) (c : List Value), cst = .int Y :: .int X :: c ∧ X.toInt = ev ρ x ∧ Y.toInt = ev ρ y ∧ w = f x y := by
  unfold ow2 at h
  split at h
  · rename_i b y c x r
    cases h1 : lnB b false with
    | false => rw [h1] at h; cases h
    | true =>
      cases h2 : lnB c false with
      | false => rw [h1, h2] at h; cases h
      | true =>
        rw [h1, h2] at h
        cases h
        have e1 := lnB_eq h1
        have e2 := lnB_eq h2
        subst e1; subst e2
        obtain ⟨v0, c0, e0, h0, hs0⟩ := rel2_cons hs
        obtain ⟨v1, c1, e1, h1, hs1⟩ := rel2_cons hs0
        obtain ⟨Y, a1, a2⟩ := vI_inv h0
        obtain ⟨X, b1, b2⟩ := vI_inv h1
        subst e0; subst e1; subst a1; subst b1
        exact ⟨X, Y, x, y, c1, rfl, b2, a2, rfl⟩
  · cases h
theorem ow2J {f : Ln → Ln → Ln × Ln × Ln} {w : Ln × Ln × Ln} (hs : rel2 (vrel ρ) cst st) (h : ow2 true f st = some w) : ∃ (X Y : Int64) (x y : Ln) (c : List Value), cst = .long Y :: .long X :: c ∧ X.toInt = ev ρ x ∧ Y.toInt = ev ρ y ∧ w = f x y := by
  unfold ow2 at h
  split at h
  · rename_i b y c x r
    cases h1 : lnB b true with
    | false => rw [h1] at h; cases h
    | true =>
      cases h2 : lnB c true with
      | false => rw [h1, h2] at h; cases h
      | true =>
        rw [h1, h2] at h
        cases h
        have e1 := lnB_eq h1
        have e2 := lnB_eq h2
        subst e1; subst e2
        obtain ⟨v0, c0, e0, h0, hs0⟩ := rel2_cons hs
        obtain ⟨v1, c1, e1, h1, hs1⟩ := rel2_cons hs0
        obtain ⟨Y, a1, a2⟩ := vJ_inv h0
        obtain ⟨X, b1, b2⟩ := vJ_inv h1
        subst e0; subst e1; subst a1; subst b1
        exact ⟨X, Y, x, y, c1, rfl, b2, a2, rfl⟩
  · cases h
theorem ow1I {f : Ln → Ln × Ln × Ln} {w : Ln × Ln × Ln} (hs : rel2 (vrel ρ) cst st) (h : ow1 false f st = some w) : ∃ (X : Int32) (x : Ln) (c : List Value), cst = .int X :: c ∧ X.toInt = ev ρ x ∧ w = f x := by
  unfold ow1 at h
  split at h
  · rename_i b x r
    cases h1 : lnB b false with
    | false => rw [h1] at h; cases h
    | true =>
      rw [h1] at h
      cases h
      have e1 := lnB_eq h1
      subst e1
      obtain ⟨v0, c0, e0, h0, hs0⟩ := rel2_cons hs
      obtain ⟨Y, a1, a2⟩ := vI_inv h0
      subst e0; subst a1
      exact ⟨Y, x, c0, rfl, a2, rfl⟩
  · cases h
theorem ow1J {f : Ln → Ln × Ln × Ln} {w : Ln × Ln × Ln} (hs : rel2 (vrel ρ) cst st) (h : ow1 true f st = some w) : ∃ (X : Int64) (x : Ln) (c : List Value), cst = .long X :: c ∧ X.toInt = ev ρ x ∧ w = f x := by
  unfold ow1 at h
  split at h
  · rename_i b x r
    cases h1 : lnB b true with
    | false => rw [h1] at h; cases h
    | true =>
      rw [h1] at h
      cases h
      have e1 := lnB_eq h1
      subst e1
      obtain ⟨v0, c0, e0, h0, hs0⟩ := rel2_cons hs
      obtain ⟨Y, a1, a2⟩ := vJ_inv h0
      subst e0; subst a1
      exact ⟨Y, x, c0, rfl, a2, rfl⟩
  · cases h
/-- what an operation's word says is so -/
theorem opW_ok {i : Instr} {a : Nat} {op x y : Ln} {v : Value} (ht : tOk ρ tab) (hs : rel2 (vrel ρ) cst st) (h : opW i tab st = some (op, x, y)) (hst : stepA i a cst clv = some (v :: cr)) : (∃ z : Int32, v = .int z ∧ z.toInt = valZ (ev ρ op) (ev ρ x) (ev ρ y)) ∨ ∃ z : Int64, v = .long z ∧ z.toInt = valZ (ev ρ op) (ev ρ x) (ev ρ y) := by
  have k (c : Int) : ev ρ (kL c) = c := ev_k ρ c
  have m1 : (Int.negSucc 0 : Int) = -1 := rfl
  unfold opW at h
  split at h
  · obtain ⟨X, Y, ex, ey, c, e1, e2, e3, e4⟩ := ow2I hs h
    cases e4; subst e1; cases hst
    refine Or.inl ⟨_, rfl, ?_⟩
    rw [k, k, ev_add, ← e2, ← e3]
    exact Int32.toInt_add X Y
  · obtain ⟨X, Y, ex, ey, c, e1, e2, e3, e4⟩ := ow2I hs h
    cases e4; subst e1; cases hst
    refine Or.inl ⟨_, rfl, ?_⟩
    rw [k, k, ev_sub, ← e2, ← e3]
    exact Int32.toInt_sub X Y
  · obtain ⟨X, Y, ex, ey, c, e1, e2, e3, e4⟩ := ow2I hs h
    subst e1; cases hst
    refine Or.inl ⟨_, rfl, ?_⟩
    cases hm : aMulE tab ex ey with
    | some l =>
      rw [hm] at e4
      cases e4
      rw [k, k, aMulE_ok ht hm, ← e2, ← e3]
      exact Int32.toInt_mul X Y
    | none =>
      rw [hm] at e4
      cases e4
      rw [k, ← e2, ← e3]
      show _ = (Int32.ofInt X.toInt * Int32.ofInt Y.toInt).toInt
      rw [ofInt32, ofInt32]
  · obtain ⟨X, Y, ex, ey, c, e1, e2, e3, e4⟩ := ow2I hs h
    cases e4; subst e1
    simp only [stepA, biN] at hst
    split at hst
    · cases hst
    · cases hst
      refine Or.inl ⟨_, rfl, ?_⟩
      rw [k, ← e2, ← e3]
      show _ = (Int32.ofInt X.toInt / Int32.ofInt Y.toInt).toInt
      rw [ofInt32, ofInt32]
  · obtain ⟨X, Y, ex, ey, c, e1, e2, e3, e4⟩ := ow2I hs h
    cases e4; subst e1
    simp only [stepA, biN] at hst
    split at hst
    · cases hst
    · cases hst
      refine Or.inl ⟨_, rfl, ?_⟩
      rw [k, ← e2, ← e3]
      show _ = (Int32.ofInt X.toInt - Int32.ofInt X.toInt / Int32.ofInt Y.toInt * Int32.ofInt Y.toInt).toInt
      rw [ofInt32, ofInt32]
  · obtain ⟨X, Y, ex, ey, c, e1, e2, e3, e4⟩ := ow2I hs h
    cases e4; subst e1; cases hst
    refine Or.inl ⟨_, rfl, ?_⟩
    rw [k, ← e2, ← e3]
    show _ = (Int32.ofInt X.toInt &&& Int32.ofInt Y.toInt).toInt
    rw [ofInt32, ofInt32]
  · obtain ⟨X, Y, ex, ey, c, e1, e2, e3, e4⟩ := ow2I hs h
    cases e4; subst e1; cases hst
    refine Or.inl ⟨_, rfl, ?_⟩
    rw [k, ← e2, ← e3]
    show _ = (Int32.ofInt X.toInt ||| Int32.ofInt Y.toInt).toInt
    rw [ofInt32, ofInt32]
  · obtain ⟨X, Y, ex, ey, c, e1, e2, e3, e4⟩ := ow2I hs h
    cases e4; subst e1; cases hst
    refine Or.inl ⟨_, rfl, ?_⟩
    rw [k, ← e2, ← e3]
    show _ = (Int32.ofInt X.toInt ^^^ Int32.ofInt Y.toInt).toInt
    rw [ofInt32, ofInt32]
  · obtain ⟨X, Y, ex, ey, c, e1, e2, e3, e4⟩ := ow2I hs h
    cases e4; subst e1; cases hst
    refine Or.inl ⟨_, rfl, ?_⟩
    rw [k, ← e2, ← e3]
    show _ = (Int32.ofInt X.toInt <<< (Int32.ofInt Y.toInt &&& 31)).toInt
    rw [ofInt32, ofInt32]
  · obtain ⟨X, Y, ex, ey, c, e1, e2, e3, e4⟩ := ow2I hs h
    cases e4; subst e1; cases hst
    refine Or.inl ⟨_, rfl, ?_⟩
    rw [k, ← e2, ← e3]
    show _ = (Int32.ofInt X.toInt >>> (Int32.ofInt Y.toInt &&& 31)).toInt
    rw [ofInt32, ofInt32]
  · obtain ⟨X, Y, ex, ey, c, e1, e2, e3, e4⟩ := ow2I hs h
    cases e4; subst e1; cases hst
    refine Or.inl ⟨_, rfl, ?_⟩
    rw [k, ← e2, ← e3]
    show _ = (((Int32.ofInt X.toInt).toUInt32 >>> ((Int32.ofInt Y.toInt).toUInt32 &&& Int32.toUInt32 31)).toInt32).toInt
    rw [ofInt32, ofInt32]
  · obtain ⟨X, Y, ex, ey, c, e1, e2, e3, e4⟩ := ow2J hs h
    cases e4; subst e1; cases hst
    refine Or.inr ⟨_, rfl, ?_⟩
    rw [k, k, ev_add, ← e2, ← e3]
    exact Int64.toInt_add X Y
  · obtain ⟨X, Y, ex, ey, c, e1, e2, e3, e4⟩ := ow2J hs h
    cases e4; subst e1; cases hst
    refine Or.inr ⟨_, rfl, ?_⟩
    rw [k, k, ev_sub, ← e2, ← e3]
    exact Int64.toInt_sub X Y
  · obtain ⟨X, Y, ex, ey, c, e1, e2, e3, e4⟩ := ow2J hs h
    subst e1; cases hst
    refine Or.inr ⟨_, rfl, ?_⟩
    cases hm : aMulE tab ex ey with
    | some l =>
      rw [hm] at e4
      cases e4
      rw [k, k, aMulE_ok ht hm, ← e2, ← e3]
      exact Int64.toInt_mul X Y
    | none =>
      rw [hm] at e4
      cases e4
      rw [k, ← e2, ← e3]
      show _ = (Int64.ofInt X.toInt * Int64.ofInt Y.toInt).toInt
      rw [ofInt64, ofInt64]
  · obtain ⟨X, Y, ex, ey, c, e1, e2, e3, e4⟩ := ow2J hs h
    cases e4; subst e1
    simp only [stepA, blN] at hst
    split at hst
    · cases hst
    · cases hst
      refine Or.inr ⟨_, rfl, ?_⟩
      rw [k, ← e2, ← e3]
      show _ = (Int64.ofInt X.toInt / Int64.ofInt Y.toInt).toInt
      rw [ofInt64, ofInt64]
  · obtain ⟨X, ex, c, e1, e2, e4⟩ := ow1I hs h
    cases e4; subst e1; cases hst
    refine Or.inl ⟨_, rfl, ?_⟩
    rw [k, k, ev_scl, ← e2, m1]
    show (-X).toInt = Int.bmod (-1 * X.toInt) 4294967296
    rw [Int32.toInt_neg, show -1 * X.toInt = -X.toInt by omega]
  · obtain ⟨X, ex, c, e1, e2, e4⟩ := ow1J hs h
    cases e4; subst e1; cases hst
    refine Or.inr ⟨_, rfl, ?_⟩
    rw [k, k, ev_scl, ← e2, m1]
    show (-X).toInt = Int.bmod (-1 * X.toInt) 18446744073709551616
    rw [Int64.toInt_neg, show -1 * X.toInt = -X.toInt by omega]
  · obtain ⟨X, ex, c, e1, e2, e4⟩ := ow1J hs h
    cases e4; subst e1; cases hst
    refine Or.inl ⟨_, rfl, ?_⟩
    rw [k, k, ← e2]
    show X.toInt32.toInt = Int.bmod X.toInt 4294967296
    rw [Int64.toInt_toInt32]
  · cases h
theorem mvOp_ok {i : Instr} {a pc : Nat} {R : MR} (hM : mvOp i a pc st lv A pr nx tab fs = some R) (hr : ∀ ρ', agr2 nx ρ ρ' → tOk ρ' tab ∧ fOk ρ' fs ∧ rel2 (vrel ρ') cst st ∧ lvR ρ' clv lv ∧ rel2 (crel ρ') cσ A) (hp : ∀ ρ', agr2 nx ρ ρ' → prOk PPk ρ' cσ pr) : R.1 = pc ∧ ∃ cst', stepA i a cst clv = some cst' ∧ MvG ρ nx cst' clv cσ R := by
  unfold mvOp at hM
  split at hM
  · rename_i rest lg lo hi f hg
    split at hM
    · rename_i op x y hw
      cases hM
      obtain ⟨t1, t2, t3, t4, t5⟩ := hr ρ agr2.rf
      obtain ⟨v, cr, h1, h2, h3⟩ := g0_ok t1 t2 t3 t4 hg
      have all : ∀ ρ', agr2 nx ρ ρ' → rel2 (vrel ρ') cr rest ∧ rvOk ρ' v (.inr (lg, .inr (lo, hi, f))) := fun ρ' ha => by
        obtain ⟨u1, u2, u3, u4, u5⟩ := hr ρ' ha
        obtain ⟨v', cr', w1, w2, w3⟩ := g0_ok u1 u2 u3 u4 hg
        rw [h1] at w1
        cases w1
        exact ⟨w2, w3⟩
      have hval : ∀ ρ', agr2 nx ρ ρ' → (∃ z : Int32, v = .int z ∧ z.toInt = valZ (ev ρ' op) (ev ρ' x) (ev ρ' y)) ∨ ∃ z : Int64, v = .long z ∧ z.toInt = valZ (ev ρ' op) (ev ρ' x) (ev ρ' y) := fun ρ' ha => by
        obtain ⟨u1, u2, u3, u4, u5⟩ := hr ρ' ha
        exact opW_ok u1 u3 hw h1
      have hbase : ∀ ρ', agr2 nx ρ ρ' → tOk ρ' tab ∧ fOk ρ' fs ∧ rel2 (vrel ρ') cr rest ∧ lvR ρ' clv lv ∧ rel2 (crel ρ') cσ A := fun ρ' ha => by
        obtain ⟨u1, u2, u3, u4, u5⟩ := hr ρ' ha
        exact ⟨u1, u2, (all ρ' ha).1, u4, u5⟩
      refine ⟨by unfold resV; split <;> rfl, v :: cr, h1, ?_⟩
      cases lg with
      | false =>
        obtain ⟨z, z1, z2⟩ : ∃ z : Int32, v = .int z ∧ orOk ρ z.toInt (.inr (lo, hi, f)) := h3
        subst z1
        have zv : ∀ ρ', agr2 nx ρ ρ' → z.toInt = valZ (ev ρ' op) (ev ρ' x) (ev ρ' y) := fun ρ' ha => by
          rcases hval ρ' ha with ⟨w, w1, w2⟩ | ⟨w, w1, w2⟩
          · cases w1; exact w2
          · cases w1
        refine resV_ok (z := z.toInt) hbase hp (fun ρ' e he => ⟨_, rfl, he⟩) (z2 : _ ∧ _).1.1 (z2 : _ ∧ _).1.2 rfl (fun ρ' ha => ?_) (fun ρ' ha w hw => ?_) (fun ρ' ha e he => ?_)
        · show PPk 200 [] [ev ρ' op, ev ρ' x, ev ρ' y, _]
          rw [w200_p]
          exact zv ρ' ha
        · have hw' : PPk 200 [] [ev ρ' op, ev ρ' x, ev ρ' y, w] := hw
          rw [w200_p] at hw'
          rw [hw']
          exact (zv ρ' ha).symm
        · obtain ⟨z', y1, y2⟩ : ∃ z' : Int32, Value.int z = .int z' ∧ orOk ρ' z'.toInt (.inr (lo, hi, f)) := (all ρ' ha).2
          cases y1
          exact (y2 : _ ∧ _).2 e he
      | true =>
        obtain ⟨z, z1, z2⟩ : ∃ z : Int64, v = .long z ∧ orOk ρ z.toInt (.inr (lo, hi, f)) := h3
        subst z1
        have zv : ∀ ρ', agr2 nx ρ ρ' → z.toInt = valZ (ev ρ' op) (ev ρ' x) (ev ρ' y) := fun ρ' ha => by
          rcases hval ρ' ha with ⟨w, w1, w2⟩ | ⟨w, w1, w2⟩
          · cases w1
          · cases w1; exact w2
        refine resV_ok (z := z.toInt) hbase hp (fun ρ' e he => ⟨_, rfl, he⟩) (z2 : _ ∧ _).1.1 (z2 : _ ∧ _).1.2 rfl (fun ρ' ha => ?_) (fun ρ' ha w hw => ?_) (fun ρ' ha e he => ?_)
        · show PPk 200 [] [ev ρ' op, ev ρ' x, ev ρ' y, _]
          rw [w200_p]
          exact zv ρ' ha
        · have hw' : PPk 200 [] [ev ρ' op, ev ρ' x, ev ρ' y, w] := hw
          rw [w200_p] at hw'
          rw [hw']
          exact (zv ρ' ha).symm
        · obtain ⟨z', y1, y2⟩ : ∃ z' : Int64, Value.long z = .long z' ∧ orOk ρ' z'.toInt (.inr (lo, hi, f)) := (all ρ' ha).2
          cases y1
          exact (y2 : _ ∧ _).2 e he
    · cases hM
  · cases hM
/-- the macro at places (bits) -/
noncomputable def mMV (M : Nat) : MC := fun _ tb pc st lv A pr nx tab fs => bif isPt M pc then (match tbGet tb pc with
  | some (i, len, g, a, _, _) => (match g with
    | 0 => mvOp i a (Nat.add pc len) st lv A pr nx tab fs
    | 3 => (match i with
      | .iaload => mvLdI (Nat.add pc len) st lv A pr nx tab fs
      | .laload => mvLdJ (Nat.add pc len) st lv A pr nx tab fs
      | _ => none)
    | 4 => (match i with
      | .iastore => mvStI (Nat.add pc len) st lv A pr nx tab fs
      | .lastore => mvStJ (Nat.add pc len) st lv A pr nx tab fs
      | _ => none)
    | _ => none)
  | none => none) else none
theorem mMV_ok (M : Nat) : McOk PPk (mMV M) := by
  intro ini o nL tb d Q pc st lv A pr nx tab fs pc' st' lv' A' pr' nx' tab' fs' ρ cst clv cσ hM hr hp hlv
  unfold mMV at hM
  cases z : isPt M pc with
  | false => rw [z] at hM; cases hM
  | true =>
    rw [z, cond_true] at hM
    split at hM
    · rename_i i len g a b w he
      split at hM
      · obtain ⟨h1, cst', h2, ρ1, r1, r2, r3, r4⟩ := mvOp_ok hM hr hp
        try dsimp only at h1 r1 r2 r3 r4
        refine ⟨cst', clv, cσ, ρ1, r1, r2, r3, r4, hlv, fun cca ccb hg => Good.step ?_ hg⟩
        rw [h1]
        simp only [nxt, he, h2]
        rfl
      · split at hM
        · obtain ⟨h1, cst', h2, ρ1, r1, r2, r3, r4⟩ := mvLdI_ok hM hr hp
          try dsimp only at h1 r1 r2 r3 r4
          refine ⟨cst', clv, cσ, ρ1, r1, r2, r3, r4, hlv, fun cca ccb hg => Good.step ?_ hg⟩
          rw [h1]
          have h2' : stepD none .iaload a b cst cσ = some cst' := h2
          simp only [nxt, he, h2']
          rfl
        · obtain ⟨h1, cst', h2, ρ1, r1, r2, r3, r4⟩ := mvLdJ_ok hM hr hp
          try dsimp only at h1 r1 r2 r3 r4
          refine ⟨cst', clv, cσ, ρ1, r1, r2, r3, r4, hlv, fun cca ccb hg => Good.step ?_ hg⟩
          rw [h1]
          have h2' : stepD none .laload a b cst cσ = some cst' := h2
          simp only [nxt, he, h2']
          rfl
        · cases hM
      · split at hM
        · obtain ⟨h1, cst', cτ, h2, h3, ρ1, r1, r2, r3, r4⟩ := mvStI_ok hM hr hp
          try dsimp only at h1 r1 r2 r3 r4
          refine ⟨cst', clv, cτ, ρ1, r1, r2, r3, r4, by rw [h3]; exact hlv, fun cca ccb hg => Good.step ?_ hg⟩
          rw [h1]
          have h2' : stepE ini o .iastore a b cst cσ = some (cst', cτ) := h2
          simp only [nxt, he, h2']
          rfl
        · obtain ⟨h1, cst', cτ, h2, h3, ρ1, r1, r2, r3, r4⟩ := mvStJ_ok hM hr hp
          try dsimp only at h1 r1 r2 r3 r4
          refine ⟨cst', clv, cτ, ρ1, r1, r2, r3, r4, by rw [h3]; exact hlv, fun cca ccb hg => Good.step ?_ hg⟩
          rw [h1]
          have h2' : stepE ini o .lastore a b cst cσ = some (cst', cτ) := h2
          simp only [nxt, he, h2']
          rfl
        · cases hM
      · cases hM
    · cases hM
end VMO
