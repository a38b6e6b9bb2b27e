/-! ===== hints: codes of signs, signs that wait, faults told; a value cut in two ===== -/
theorem take_snoc {l : List Int32} {c : Nat} (h : c < l.length) : l.take (c + 1) = l.take c ++ [l.getD c 0] := by
  rw [List.take_add_one, List.getD_eq_getElem?_getD, List.getElem?_eq_getElem h]
  rfl
theorem code_snoc {l : List Int32} {c : Nat} (h : c < l.length) : codeD (l.take (c + 1)) = cstep (codeD (l.take c)) (l.getD c 0) := by
  unfold codeD
  rw [take_snoc h, List.foldl_append]
  rfl
theorem stk_snoc {l : List Int32} {c : Nat} (h : c < l.length) : stkD (l.take (c + 1)) = sstep (stkD (l.take c)) (l.getD c 0) := by
  unfold stkD
  rw [take_snoc h, List.foldl_append]
  rfl
theorem cstep_cases {d m : Nat} {x : Int32} (h : cstep (some d) x = some m) : ((0 ≤ x.toInt ∧ x.toInt ≤ 1) ∧ m = d + 1) ∨ ((2 ≤ x.toInt ∧ x.toInt ≤ 3) ∧ 1 ≤ d ∧ m = d) ∨ ((4 ≤ x.toInt ∧ x.toInt ≤ 12) ∧ 2 ≤ d ∧ m = d - 1) := by
  unfold cstep at h
  try dsimp only at h
  split at h
  · cases h
    exact Or.inl ⟨by omega, rfl⟩
  · split at h
    · split at h
      · cases h
        exact Or.inr (Or.inl ⟨by omega, by omega, rfl⟩)
      · cases h
    · split at h
      · split at h
        · cases h
          exact Or.inr (Or.inr ⟨by omega, by omega, rfl⟩)
        · cases h
      · cases h
theorem cstep_0 {d : Nat} {x : Int32} (h : 0 ≤ x.toInt ∧ x.toInt ≤ 1) : cstep (some d) x = some (d + 1) := by
  unfold cstep
  try dsimp only
  rw [if_pos (by omega)]
theorem cstep_1 {d : Nat} {x : Int32} (h : 2 ≤ x.toInt ∧ x.toInt ≤ 3) (hd : 1 ≤ d) : cstep (some d) x = some d := by
  unfold cstep
  try dsimp only
  rw [if_neg (by omega), if_pos (by omega), if_pos hd]
theorem cstep_2 {d : Nat} {x : Int32} (h : 4 ≤ x.toInt ∧ x.toInt ≤ 12) (hd : 2 ≤ d) : cstep (some d) x = some (d - 1) := by
  unfold cstep
  try dsimp only
  rw [if_neg (by omega), if_neg (by omega), if_pos h, if_pos hd]
theorem sstep_cases {o b o' b' : Nat} {x : Int32} (h : sstep (some (o, b)) x = some (o', b')) : (x.toInt = 13 ∧ o' = o + 1 ∧ b' = b) ∨ ((2 ≤ x.toInt ∧ x.toInt ≤ 3) ∧ o' = o ∧ b' = b) ∨ ((4 ≤ x.toInt ∧ x.toInt ≤ 12) ∧ o' = o ∧ b' = b + 1) := by
  unfold sstep at h
  try dsimp only at h
  split at h
  · cases h
    exact Or.inl ⟨by omega, rfl, rfl⟩
  · split at h
    · cases h
      exact Or.inr (Or.inl ⟨by omega, rfl, rfl⟩)
    · split at h
      · cases h
        exact Or.inr (Or.inr ⟨by omega, rfl, rfl⟩)
      · cases h
theorem sstep_0 {o b : Nat} {x : Int32} (h : x.toInt = 13) : sstep (some (o, b)) x = some (o + 1, b) := by
  unfold sstep
  try dsimp only
  rw [if_pos h]
theorem sstep_1 {o b : Nat} {x : Int32} (h : 2 ≤ x.toInt ∧ x.toInt ≤ 3) : sstep (some (o, b)) x = some (o, b) := by
  unfold sstep
  try dsimp only
  rw [if_neg (by omega), if_pos (by omega)]
theorem sstep_2 {o b : Nat} {x : Int32} (h : 4 ≤ x.toInt ∧ x.toInt ≤ 12) : sstep (some (o, b)) x = some (o, b + 1) := by
  unfold sstep
  try dsimp only
  rw [if_neg (by omega), if_neg (by omega), if_pos h]
/-- the pieces before are whole -/
theorem code_pre {l : List Int32} {n : Nat} : ∀ {k m : Nat}, n + k ≤ l.length → codeD (l.take (n + k)) = some m → ∃ m', codeD (l.take n) = some m' := by
  intro k
  induction k with
  | zero => intro m _ h; exact ⟨m, h⟩
  | succ k ih =>
    intro m hl h
    rw [show n + (k + 1) = (n + k) + 1 by omega, code_snoc (by omega)] at h
    cases hc : codeD (l.take (n + k)) with
    | none => rw [hc] at h; cases h
    | some d => exact ih (by omega) hc
theorem stk_pre {l : List Int32} {n : Nat} {q : Nat × Nat} (hl : n + 1 ≤ l.length) (h : stkD (l.take (n + 1)) = some q) : ∃ o b, stkD (l.take n) = some (o, b) := by
  rw [stk_snoc (by omega)] at h
  cases hc : stkD (l.take n) with
  | none => rw [hc] at h; cases h
  | some d => exact ⟨d.1, d.2, rfl⟩
theorem code_le {l : List Int32} : ∀ {n m : Nat}, n ≤ l.length → codeD (l.take n) = some m → m ≤ n := by
  intro n
  induction n with
  | zero => intro m _ h; rw [List.take_zero] at h; cases h; exact Nat.le_refl _
  | succ n ih =>
    intro m hl h
    rw [code_snoc (by omega)] at h
    cases hc : codeD (l.take n) with
    | none => rw [hc] at h; cases h
    | some d =>
      rw [hc] at h
      have := ih (by omega) hc
      rcases cstep_cases h with ⟨_, e⟩ | ⟨_, _, e⟩ | ⟨_, _, e⟩ <;> omega
theorem stk_le {l : List Int32} : ∀ {n o b : Nat}, n ≤ l.length → stkD (l.take n) = some (o, b) → o + b ≤ n := by
  intro n
  induction n with
  | zero => intro o b _ h; rw [List.take_zero] at h; cases h; exact Nat.le_refl _
  | succ n ih =>
    intro o b hl h
    rw [stk_snoc (by omega)] at h
    cases hc : stkD (l.take n) with
    | none => rw [hc] at h; cases h
    | some d =>
      obtain ⟨o', b'⟩ := d
      rw [hc] at h
      have := ih (by omega) hc
      rcases sstep_cases h with ⟨_, e1, e2⟩ | ⟨_, e1, e2⟩ | ⟨_, e1, e2⟩ <;> omega
/-- the first word of kind k on row q whose first number is the constant c: its other numbers -/
noncomputable def findC (tab : Tb) (k q c : Nat) : List PD → Option (List Ln)
  | [] => none
  | p :: r => match p with
    | (k', [q'], e :: ns) => (match cst tab e with
      | some (.ofNat c') => bif (bif Nat.beq k k' then (bif Nat.beq q q' then Nat.beq c c' else false) else false) then some ns else findC tab k q c r
      | _ => findC tab k q c r)
    | _ => findC tab k q c r
theorem findC_ok {tab : Tb} {k q c : Nat} {ns : List Ln} {pr : List PD} (h : findC tab k q c pr = some ns) : ∃ e, (k, [q], e :: ns) ∈ pr ∧ cst tab e = some (c : Int) := by
  induction pr with
  | nil => cases h
  | cons p r ih =>
    have recu : findC tab k q c r = some ns → ∃ e, (k, [q], e :: ns) ∈ p :: r ∧ cst tab e = some (c : Int) := fun h => by
      obtain ⟨e, h1, h2⟩ := ih h
      exact ⟨e, List.mem_cons_of_mem _ h1, h2⟩
    unfold findC at h
    split at h
    · rename_i k' q' e ns'
      split at h
      · rename_i c' hc
        cases z : (bif Nat.beq k k' then (bif Nat.beq q q' then Nat.beq c c' else false) else false) with
        | false => rw [z] at h; exact recu h
        | true =>
          rw [z] at h
          cases h
          obtain ⟨z1, z⟩ := cand z
          obtain ⟨z2, z3⟩ := cand z
          have e1 := Nat.eq_of_beq_eq_true z1
          have e2 := Nat.eq_of_beq_eq_true z2
          have e3 := Nat.eq_of_beq_eq_true z3
          subst e1; subst e2; subst e3
          exact ⟨e, List.mem_cons_self, hc⟩
      · exact recu h
    · exact recu h
/-- the row in field f of the object in local 0 -/
noncomputable def rowF (lv : AL) (A : AH) (f : Nat) : Option Nat := match alGet 0 lv with
  | some (.inr (.inl (some o))) => (match A[o]? with
    | some (.inl (_, as)) => refAt as f
    | _ => none)
  | _ => none
noncomputable def cstAt (loc : Nat) (lv : AL) (A : AH) (tab : Tb) : Option Nat := match srcV loc lv A with
  | some (.inl (false, e)) => (match cst tab e with
    | some (.ofNat v) => some v
    | _ => none)
  | _ => none
section H40
variable {nx : Nat} {tab : Tb} {fs : List Ln} {A : AH} {pr : List PD} {ρ : Nat → Int} {cσ : SH}
abbrev HGood (ρ : Nat → Int) (nx : Nat) (cσ : SH) (q : HR) : Prop := ∃ ρ1, nx ≤ q.2.2.1 ∧ agr2 nx ρ ρ1 ∧ (∀ ρ', agr2 q.2.2.1 ρ1 ρ' → tOk ρ' q.2.2.2.1 ∧ fOk ρ' q.2.2.2.2 ∧ rel2 (crel ρ') cσ q.1) ∧ (∀ ρ', agr2 q.2.2.1 ρ1 ρ' → prOk PPk ρ' cσ q.2.1)
/-- the same state, more said of it -/
theorem hGood0 {pr' : List PD} {fs' : List Ln} (hr : ∀ ρ', agr2 nx ρ ρ' → tOk ρ' tab ∧ fOk ρ' fs' ∧ rel2 (crel ρ') cσ A) (hp : ∀ ρ', agr2 nx ρ ρ' → prOk PPk ρ' cσ pr') : HGood ρ nx cσ (A, pr', nx, tab, fs') :=
  ⟨ρ, Nat.le_refl _, agr2.rf, hr, hp⟩
noncomputable def oneCase (els : List EL) (A : AH) (pr : List PD) (nx : Nat) (tab : Tb) (fs : List Ln) : Option HR := match appCase els A nx tab with
  | some (A', nx', tab') => some (A', pr, nx', tab', fs)
  | none => none
theorem oneCase_ok {els : List EL} {q : HR} (h : oneCase els A pr nx tab fs = some q) (hel : ∀ e ∈ els, elOk cσ e) (hr : ∀ ρ', agr2 nx ρ ρ' → tOk ρ' tab ∧ fOk ρ' fs ∧ rel2 (crel ρ') cσ A) (hp : ∀ ρ', agr2 nx ρ ρ' → prOk PPk ρ' cσ pr) : HGood ρ nx cσ q := by
  unfold oneCase at h
  split at h
  · rename_i A' nx' tab' h1
    cases h
    obtain ⟨ρ1, y1, y2, y3⟩ := appCase_ok (σ := cσ) _ _ _ _ _ _ _ fs ρ h1 hel hr
    exact ⟨ρ1, y1, y2, y3, fun ρ' ha => hp ρ' (fun i hi => (ha i (Nat.lt_of_lt_of_le hi y1)).trans (y2 i hi))⟩
  · cases h
theorem pn4 {q : Nat} {e d : Ln} (h : prOk PPk ρ cσ pr) (hm : (4, [q], [e, d]) ∈ pr) : okCode (arrI (cσ.getD q (.inl (0, [])))) (ev ρ e) (ev ρ d) := (show PPn 4 [arrI (cσ.getD q (.inl (0, [])))] [ev ρ e, ev ρ d] from h _ hm).elim (fun x => x.2) (fun x => absurd x.1 (by decide))
theorem pn5 {q : Nat} {e o b : Ln} (h : prOk PPk ρ cσ pr) (hm : (5, [q], [e, o, b]) ∈ pr) : okStk (arrI (cσ.getD q (.inl (0, [])))) (ev ρ e) (ev ρ o) (ev ρ b) := (show PPn 5 [arrI (cσ.getD q (.inl (0, [])))] [ev ρ e, ev ρ o, ev ρ b] from h _ hm).elim (fun x => x.2) (fun x => x.elim (fun x => absurd x.1 (by decide)) (fun x => absurd x.1 (by decide)))
theorem pr_c4 {q : Nat} {e d : Ln} (h : prOk PPk ρ cσ pr) (hc : okCode (arrI (cσ.getD q (.inl (0, [])))) (ev ρ e) (ev ρ d)) : prOk PPk ρ cσ ((4, [q], [e, d]) :: pr) :=
  List.forall_mem_cons.mpr ⟨show PPn 4 [arrI (cσ.getD q (.inl (0, [])))] [ev ρ e, ev ρ d] from Or.inl ⟨rfl, hc⟩, h⟩
theorem pr_c5 {q : Nat} {e o b : Ln} (h : prOk PPk ρ cσ pr) (hc : okStk (arrI (cσ.getD q (.inl (0, [])))) (ev ρ e) (ev ρ o) (ev ρ b)) : prOk PPk ρ cσ ((5, [q], [e, o, b]) :: pr) :=
  List.forall_mem_cons.mpr ⟨show PPn 5 [arrI (cσ.getD q (.inl (0, [])))] [ev ρ e, ev ρ o, ev ρ b] from Or.inl ⟨rfl, hc⟩, h⟩
end H40
-- a hint's shape: at a place, what a function of the state gives
noncomputable def atPc (at_ : Nat) (f : HF) : HF := fun pc lv A pr nx tab fs => bif Nat.beq pc at_ then f pc lv A pr nx tab fs else none
theorem atPc_ok {at_ : Nat} {f : HF} (h : HFOk PPk f) : HFOk PPk (atPc at_ f) := by
  intro pc lv A pr nx tab fs L ρ clv cσ h1 hr hp
  unfold atPc at h1
  cases h0 : Nat.beq pc at_ with
  | false => rw [h0] at h1; cases h1
  | true => rw [h0] at h1; exact h pc lv A pr nx tab fs L ρ clv cσ h1 hr hp
/-- a number of what is said of a row in the constant that it is; the element there gets a name -/
noncomputable def fConst (k f loc : Nat) : HF := fun _ lv A pr nx tab fs => match rowF lv A f, cstAt loc lv A tab with
  | some q, some c => (match findC tab k q c pr, cellB tab A q c with
    | some ns, some (lo, hi) => (match oneCase [(q, c, lo, hi)] A ((k, [q], kL (.ofNat c) :: ns) :: pr) nx tab fs with
      | some Q => some [Q]
      | none => none)
    | _, _ => none)
  | _, _ => none
theorem fConst_ok (k f loc : Nat) : HFOk PPk (fConst k f loc) := by
  intro pc lv A pr nx tab fs L ρ clv cσ h hr hp
  have hr' : ∀ ρ', agr2 nx ρ ρ' → tOk ρ' tab ∧ fOk ρ' fs ∧ rel2 (crel ρ') cσ A := fun ρ' ha => ⟨(hr ρ' ha).1, (hr ρ' ha).2.1, (hr ρ' ha).2.2.2⟩
  unfold fConst at h
  split at h
  · rename_i q c _ _
    split at h
    · rename_i ns lo hi hf hc
      split at h
      · rename_i Q hQ
        cases h
        obtain ⟨e, h1, h2⟩ := findC_ok hf
        have hb := cellB_ok (hr ρ agr2.rf).1 (hr ρ agr2.rf).2.2.2 hc
        refine ⟨_, List.mem_cons_self, oneCase_ok hQ (List.forall_mem_cons.mpr ⟨el_of hb.1 hb.2.1 hb.2.2, fun _ hh => (by cases hh)⟩) hr' (fun ρ' ha => List.forall_mem_cons.mpr ⟨?_, hp ρ' ha⟩)⟩
        have h3 := hp ρ' ha _ h1
        have e1 : (kL (.ofNat c) :: ns).map (ev ρ') = (e :: ns).map (ev ρ') := by
          rw [List.map_cons, List.map_cons, ev_k, cst_ok (hr ρ' ha).1 h2]
          rfl
        show PPk k _ ((kL (.ofNat c) :: ns).map (ev ρ'))
        rw [e1]
        exact h3
      · cases h
    · cases h
  · cases h
noncomputable def rIn (lo hi a b : Int) : Bool := bif leI a lo then leI hi b else false
theorem rIn_ok {lo hi a b x : Int} (h : rIn lo hi a b = true) (h1 : lo ≤ x) (h2 : x ≤ hi) : a ≤ x ∧ x ≤ b := by
  obtain ⟨c1, c2⟩ := cand h
  exact ⟨Int.le_trans (leI_le c1) h1, Int.le_trans h2 (leI_le c2)⟩
/-- the element at base and the number in loc, of the row in field f, gets a name -/
noncomputable def fExp (base f loc : Nat) : HF := fun _ lv A pr nx tab fs => match rowF lv A f, cstAt loc lv A tab with
  | some q, some c => (match cellB tab A q (Nat.add base c) with
    | some (lo, hi) => allCases A pr nx tab fs [[(q, Nat.add base c, lo, hi)]]
    | none => none)
  | _, _ => none
theorem fExp_ok (base f loc : Nat) : HFOk PPk (fExp base f loc) := by
  intro pc lv A pr nx tab fs L ρ clv cσ h hr hp
  have hr' : ∀ ρ', agr2 nx ρ ρ' → tOk ρ' tab ∧ fOk ρ' fs ∧ rel2 (crel ρ') cσ A := fun ρ' ha => ⟨(hr ρ' ha).1, (hr ρ' ha).2.1, (hr ρ' ha).2.2.2⟩
  unfold fExp at h
  split at h
  · split at h
    · rename_i lo hi hc
      have hb := cellB_ok (hr ρ agr2.rf).1 (hr ρ agr2.rf).2.2.2 hc
      exact allCases_ok hr' hp _ L h ⟨_, List.mem_cons_self, List.forall_mem_cons.mpr ⟨el_of hb.1 hb.2.1 hb.2.2, fun _ hh => (by cases hh)⟩⟩
    · cases h
  · cases h
/-- of nothing both can be said -/
noncomputable def fZero (k f : Nat) : HF := fun _ lv A pr nx tab fs => match rowF lv A f with
  | some q => (match k with
    | 4 => some [(A, (4, [q], [kL 0, kL 0]) :: pr, nx, tab, fs)]
    | _ => some [(A, (5, [q], [kL 0, kL 0, kL 0]) :: pr, nx, tab, fs)])
  | none => none
theorem fZero_ok (k f : Nat) : HFOk PPk (fZero k f) := by
  intro pc lv A pr nx tab fs L ρ clv cσ h hr hp
  have hr' : ∀ ρ', agr2 nx ρ ρ' → tOk ρ' tab ∧ fOk ρ' fs ∧ rel2 (crel ρ') cσ A := fun ρ' ha => ⟨(hr ρ' ha).1, (hr ρ' ha).2.1, (hr ρ' ha).2.2.2⟩
  unfold fZero at h
  split at h
  · rename_i q _
    split at h
    · cases h
      refine ⟨_, List.mem_cons_self, hGood0 hr' (fun ρ' ha => pr_c4 (hp ρ' ha) ?_)⟩
      rw [ev_k]
      exact ⟨0, 0, rfl, rfl, Nat.zero_le _, by rw [List.take_zero]; rfl⟩
    · cases h
      refine ⟨_, List.mem_cons_self, hGood0 hr' (fun ρ' ha => pr_c5 (hp ρ' ha) ?_)⟩
      rw [ev_k]
      exact ⟨0, 0, 0, rfl, rfl, rfl, Nat.zero_le _, by rw [List.take_zero]; rfl⟩
  · cases h
/-- a sign was laid behind a code: the place is one less than the number in loc -/
noncomputable def fCode (f loc : Nat) : HF := fun _ lv A pr nx tab fs => match rowF lv A f, cstAt loc lv A tab with
  | some q, some (c + 1) => (match findC tab 4 q c pr, cellB tab A q c with
    | some [d], some (lo, hi) => bif rIn lo hi 0 1 then some [(A, (4, [q], [kL (.ofNat (Nat.succ c)), pluL d 1]) :: pr, nx, tab, fs)] else bif rIn lo hi 2 3 then (bif le0 tab fs (subL (kL 1) d) then some [(A, (4, [q], [kL (.ofNat (Nat.succ c)), d]) :: pr, nx, tab, fs)] else none) else bif rIn lo hi 4 12 then (bif le0 tab fs (subL (kL 2) d) then some [(A, (4, [q], [kL (.ofNat (Nat.succ c)), pluL d (.negSucc 0)]) :: pr, nx, tab, fs)] else none) else none
    | _, _ => none)
  | _, _ => none
theorem fCode_ok (f loc : Nat) : HFOk PPk (fCode f loc) := by
  intro pc lv A pr nx tab fs L ρ clv cσ h hr hp
  have hr' : ∀ ρ', agr2 nx ρ ρ' → tOk ρ' tab ∧ fOk ρ' fs ∧ rel2 (crel ρ') cσ A := fun ρ' ha => ⟨(hr ρ' ha).1, (hr ρ' ha).2.1, (hr ρ' ha).2.2.2⟩
  unfold fCode at h
  split at h
  · rename_i q c _ _
    split at h
    · rename_i d lo hi hf hc
      obtain ⟨e, h1, h2⟩ := findC_ok hf
      have key : ∀ ρ', agr2 nx ρ ρ' → ∀ m' : Nat, (∀ m : Nat, ev ρ' d = (m : Int) → cstep (some m) ((arrI (cσ.getD q (.inl (0, [])))).getD c 0) = some m') → okCode (arrI (cσ.getD q (.inl (0, [])))) ((Nat.succ c : Nat) : Int) (m' : Int) := fun ρ' ha m' hs => by
        obtain ⟨n, m, q1, q2, q3, q4⟩ := pn4 (hp ρ' ha) h1
        have hb := cellB_ok (hr ρ' ha).1 (hr ρ' ha).2.2.2 hc
        rw [cst_ok (hr ρ' ha).1 h2] at q1
        have hn : n = c := by omega
        subst hn
        refine ⟨n + 1, m', rfl, rfl, hb.1, ?_⟩
        rw [code_snoc hb.1, q4]
        exact hs m q2
      have hd : ∀ ρ', agr2 nx ρ ρ' → ∃ m : Nat, ev ρ' d = (m : Int) := fun ρ' ha => by
        obtain ⟨n, m, q1, q2, q3, q4⟩ := pn4 (hp ρ' ha) h1
        exact ⟨m, q2⟩
      have hx : ∀ ρ', agr2 nx ρ ρ' → lo ≤ ((arrI (cσ.getD q (.inl (0, [])))).getD c 0).toInt ∧ ((arrI (cσ.getD q (.inl (0, [])))).getD c 0).toInt ≤ hi := fun ρ' ha => (cellB_ok (hr ρ' ha).1 (hr ρ' ha).2.2.2 hc).2
      have hsc : ∀ ρ', ev ρ' (kL (.ofNat (Nat.succ c))) = ((Nat.succ c : Nat) : Int) := fun ρ' => ev_k ρ' _
      cases z1 : rIn lo hi 0 1 with
      | true =>
        rw [z1] at h
        cases h
        refine ⟨_, List.mem_cons_self, hGood0 hr' (fun ρ' ha => pr_c4 (hp ρ' ha) ?_)⟩
        obtain ⟨m, hm⟩ := hd ρ' ha
        rw [hsc, ev_plu, hm]
        exact key ρ' ha (m + 1) (fun m2 h2 => by
          have : m2 = m := by omega
          subst this
          exact cstep_0 (rIn_ok z1 (hx ρ' ha).1 (hx ρ' ha).2))
      | false =>
        rw [z1] at h
        simp only [cond_false] at h
        cases z2 : rIn lo hi 2 3 with
        | true =>
          rw [z2] at h
          obtain ⟨w1, h⟩ : le0 tab fs (subL (kL 1) d) = true ∧ some [((A, (4, [q], [kL (.ofNat (Nat.succ c)), d]) :: pr, nx, tab, fs) : HR)] = some L := by
            cases w : le0 tab fs (subL (kL 1) d) with
            | false => rw [w] at h; cases h
            | true => rw [w] at h; exact ⟨rfl, h⟩
          cases h
          refine ⟨_, List.mem_cons_self, hGood0 hr' (fun ρ' ha => pr_c4 (hp ρ' ha) ?_)⟩
          obtain ⟨m, hm⟩ := hd ρ' ha
          have w2 := le0_ok (hr' ρ' ha).1 (hr' ρ' ha).2.1 w1
          rw [ev_sub, ev_k] at w2
          rw [hsc, hm]
          exact key ρ' ha m (fun m2 h2 => by
            have : m2 = m := by omega
            subst this
            exact cstep_1 (rIn_ok z2 (hx ρ' ha).1 (hx ρ' ha).2) (by omega))
        | false =>
          rw [z2] at h
          simp only [cond_false] at h
          cases z3 : rIn lo hi 4 12 with
          | false => rw [z3] at h; cases h
          | true =>
            rw [z3] at h
            obtain ⟨w1, h⟩ : le0 tab fs (subL (kL 2) d) = true ∧ some [((A, (4, [q], [kL (.ofNat (Nat.succ c)), pluL d (.negSucc 0)]) :: pr, nx, tab, fs) : HR)] = some L := by
              cases w : le0 tab fs (subL (kL 2) d) with
              | false => rw [w] at h; cases h
              | true => rw [w] at h; exact ⟨rfl, h⟩
            cases h
            refine ⟨_, List.mem_cons_self, hGood0 hr' (fun ρ' ha => pr_c4 (hp ρ' ha) ?_)⟩
            obtain ⟨m, hm⟩ := hd ρ' ha
            have w2 := le0_ok (hr' ρ' ha).1 (hr' ρ' ha).2.1 w1
            rw [ev_sub, ev_k] at w2
            rw [hsc, ev_plu, hm, show (m : Int) + .negSucc 0 = ((m - 1 : Nat) : Int) by omega]
            exact key ρ' ha (m - 1) (fun m2 h2 => by
              have : m2 = m := by omega
              subst this
              exact cstep_2 (rIn_ok z3 (hx ρ' ha).1 (hx ρ' ha).2) (by omega))
    · cases h
  · cases h
/-- a sign was laid on those that wait -/
noncomputable def fStk (f loc : Nat) : HF := fun _ lv A pr nx tab fs => match rowF lv A f, cstAt loc lv A tab with
  | some q, some (c + 1) => (match findC tab 5 q c pr, cellB tab A q c with
    | some [o, b], some (lo, hi) => bif rIn lo hi 13 13 then some [(A, (5, [q], [kL (.ofNat (Nat.succ c)), pluL o 1, b]) :: pr, nx, tab, fs)] else bif rIn lo hi 2 3 then some [(A, (5, [q], [kL (.ofNat (Nat.succ c)), o, b]) :: pr, nx, tab, fs)] else bif rIn lo hi 4 12 then some [(A, (5, [q], [kL (.ofNat (Nat.succ c)), o, pluL b 1]) :: pr, nx, tab, fs)] else none
    | _, _ => none)
  | _, _ => none
theorem fStk_ok (f loc : Nat) : HFOk PPk (fStk f loc) := by
  intro pc lv A pr nx tab fs L ρ clv cσ h hr hp
  have hr' : ∀ ρ', agr2 nx ρ ρ' → tOk ρ' tab ∧ fOk ρ' fs ∧ rel2 (crel ρ') cσ A := fun ρ' ha => ⟨(hr ρ' ha).1, (hr ρ' ha).2.1, (hr ρ' ha).2.2.2⟩
  unfold fStk at h
  split at h
  · rename_i q c _ _
    split at h
    · rename_i o b lo hi hf hc
      obtain ⟨e, h1, h2⟩ := findC_ok hf
      have key : ∀ ρ', agr2 nx ρ ρ' → ∃ x y : Nat, ev ρ' o = (x : Int) ∧ ev ρ' b = (y : Int) ∧ ∀ x' y' : Nat, sstep (some (x, y)) ((arrI (cσ.getD q (.inl (0, [])))).getD c 0) = some (x', y') → okStk (arrI (cσ.getD q (.inl (0, [])))) ((Nat.succ c : Nat) : Int) (x' : Int) (y' : Int) := fun ρ' ha => by
        obtain ⟨n, x, y, q1, q2, q3, q4, q5⟩ := pn5 (hp ρ' ha) h1
        have hb := cellB_ok (hr ρ' ha).1 (hr ρ' ha).2.2.2 hc
        rw [cst_ok (hr ρ' ha).1 h2] at q1
        have hn : n = c := by omega
        subst hn
        refine ⟨x, y, q2, q3, fun x' y' hs => ⟨n + 1, x', y', rfl, rfl, rfl, hb.1, ?_⟩⟩
        rw [stk_snoc hb.1, q5]
        exact hs
      have hx : ∀ ρ', agr2 nx ρ ρ' → lo ≤ ((arrI (cσ.getD q (.inl (0, [])))).getD c 0).toInt ∧ ((arrI (cσ.getD q (.inl (0, [])))).getD c 0).toInt ≤ hi := fun ρ' ha => (cellB_ok (hr ρ' ha).1 (hr ρ' ha).2.2.2 hc).2
      have hsc : ∀ ρ', ev ρ' (kL (.ofNat (Nat.succ c))) = ((Nat.succ c : Nat) : Int) := fun ρ' => ev_k ρ' _
      cases z1 : rIn lo hi 13 13 with
      | true =>
        rw [z1] at h
        cases h
        refine ⟨_, List.mem_cons_self, hGood0 hr' (fun ρ' ha => pr_c5 (hp ρ' ha) ?_)⟩
        obtain ⟨x, y, k1, k2, k3⟩ := key ρ' ha
        have g := rIn_ok z1 (hx ρ' ha).1 (hx ρ' ha).2
        rw [hsc, ev_plu, k1, k2]
        exact k3 (x + 1) y (sstep_0 (by omega))
      | false =>
        rw [z1] at h
        simp only [cond_false] at h
        cases z2 : rIn lo hi 2 3 with
        | true =>
          rw [z2] at h
          cases h
          refine ⟨_, List.mem_cons_self, hGood0 hr' (fun ρ' ha => pr_c5 (hp ρ' ha) ?_)⟩
          obtain ⟨x, y, k1, k2, k3⟩ := key ρ' ha
          rw [hsc, k1, k2]
          exact k3 x y (sstep_1 (rIn_ok z2 (hx ρ' ha).1 (hx ρ' ha).2))
        | false =>
          rw [z2] at h
          simp only [cond_false] at h
          cases z3 : rIn lo hi 4 12 with
          | false => rw [z3] at h; cases h
          | true =>
            rw [z3] at h
            cases h
            refine ⟨_, List.mem_cons_self, hGood0 hr' (fun ρ' ha => pr_c5 (hp ρ' ha) ?_)⟩
            obtain ⟨x, y, k1, k2, k3⟩ := key ρ' ha
            rw [hsc, ev_plu, k1, k2]
            exact k3 x (y + 1) (sstep_2 (rIn_ok z3 (hx ρ' ha).1 (hx ρ' ha).2))
    · cases h
  · cases h
/-- a case that can't be may be left out -/
noncomputable def lw (b : Bool) (q : Option HR) : Option (List HR) := bif b then some [] else q.map (fun x => [x])
theorem lw_ok {b : Bool} {q : Option HR} {L : List HR} (h : lw b q = some L) (hb : b = false) : ∃ x, q = some x ∧ L = [x] := by
  subst hb
  cases q with
  | none => cases h
  | some x => cases h; exact ⟨x, rfl, rfl⟩
noncomputable def three (a b c : Option (List HR)) : Option (List HR) := match a, b, c with
  | some x, some y, some z => some (x ++ (y ++ z))
  | _, _, _ => none
/-- the last of the signs that wait, case by case; what is said of those before it -/
noncomputable def fPop (f loc : Nat) : HF := fun _ lv A pr nx tab fs => match rowF lv A f, cstAt loc lv A tab with
  | some q, some (c + 1) => (match findC tab 5 q (Nat.succ c) pr with
    | some [o, b] => three (lw (le0 tab fs o) (oneCase [(q, c, 13, 13)] A ((5, [q], [kL (.ofNat c), pluL o (.negSucc 0), b]) :: pr) nx tab (subL (kL 1) o :: fs))) (lw false (oneCase [(q, c, 2, 3)] A ((5, [q], [kL (.ofNat c), o, b]) :: pr) nx tab fs)) (lw (le0 tab fs b) (oneCase [(q, c, 4, 12)] A ((5, [q], [kL (.ofNat c), o, pluL b (.negSucc 0)]) :: pr) nx tab (subL (kL 1) b :: fs)))
    | _ => none)
  | _, _ => none
theorem fPop_ok (f loc : Nat) : HFOk PPk (fPop f loc) := by
  intro pc lv A pr nx tab fs L ρ clv cσ h hr hp
  have hr' : ∀ ρ', agr2 nx ρ ρ' → tOk ρ' tab ∧ fOk ρ' fs ∧ rel2 (crel ρ') cσ A := fun ρ' ha => ⟨(hr ρ' ha).1, (hr ρ' ha).2.1, (hr ρ' ha).2.2.2⟩
  unfold fPop at h
  split at h
  · rename_i q c _ _
    split at h
    · rename_i o b hf
      unfold three at h
      split at h
      · rename_i Q1 Q2 Q3 h1 h2 h3
        cases h
        obtain ⟨e, m1, m2⟩ := findC_ok hf
        have key : ∀ ρ', agr2 nx ρ ρ' → ∃ x y x' y' : Nat, ev ρ' o = (x : Int) ∧ ev ρ' b = (y : Int) ∧ okStk (arrI (cσ.getD q (.inl (0, [])))) (c : Int) (x' : Int) (y' : Int) ∧ sstep (some (x', y')) ((arrI (cσ.getD q (.inl (0, [])))).getD c 0) = some (x, y) ∧ c < (arrI (cσ.getD q (.inl (0, [])))).length := fun ρ' ha => by
          obtain ⟨n, x, y, q1, q2, q3, q4, q5⟩ := pn5 (hp ρ' ha) m1
          rw [cst_ok (hr ρ' ha).1 m2] at q1
          have hn : n = c + 1 := by
            have : ((Nat.succ c : Nat) : Int) = (n : Int) := q1
            omega
          subst hn
          obtain ⟨x', y', q6⟩ := stk_pre q4 q5
          rw [stk_snoc (by omega), q6] at q5
          exact ⟨x, y, x', y', q2, q3, ⟨c, x', y', rfl, rfl, rfl, by omega, q6⟩, q5, by omega⟩
        have hc : ∀ ρ', ev ρ' (kL (.ofNat c)) = (c : Int) := fun ρ' => ev_k ρ' _
        obtain ⟨x, y, x', y', k1, k2, k3, k4, k5⟩ := key ρ agr2.rf
        rcases sstep_cases k4 with ⟨g1, g2, g3⟩ | ⟨g1, g2, g3⟩ | ⟨g1, g2, g3⟩
        · obtain ⟨Y1, hY1, rfl⟩ := lw_ok h1 (by
            cases hz : le0 tab fs o with
            | false => rfl
            | true => have := le0_ok (hr' ρ agr2.rf).1 (hr' ρ agr2.rf).2.1 hz; omega)
          refine ⟨Y1, List.mem_append_left _ List.mem_cons_self, oneCase_ok hY1 (List.forall_mem_cons.mpr ⟨el_of k5 (Int.le_of_eq g1.symm) (Int.le_of_eq g1), fun _ hh => (by cases hh)⟩) (fun ρ' ha => ?_) (fun ρ' ha => ?_)⟩
          · obtain ⟨x1, y1, x2, y2, w1, w2, w3, w4, w5⟩ := key ρ' ha
            rcases sstep_cases w4 with ⟨v1, v2, v3⟩ | ⟨v1, v2, v3⟩ | ⟨v1, v2, v3⟩
            · exact ⟨(hr' ρ' ha).1, fOk_cons (hr' ρ' ha).2.1 (by rw [ev_sub, ev_k, w1]; omega), (hr' ρ' ha).2.2⟩
            · omega
            · omega
          · obtain ⟨x1, y1, x2, y2, w1, w2, w3, w4, w5⟩ := key ρ' ha
            rcases sstep_cases w4 with ⟨v1, v2, v3⟩ | ⟨v1, v2, v3⟩ | ⟨v1, v2, v3⟩
            · refine pr_c5 (hp ρ' ha) ?_
              rw [hc, ev_plu, w1, w2, show (x1 : Int) + .negSucc 0 = (x2 : Int) by omega, v3]
              exact w3
            · omega
            · omega
        · obtain ⟨Y2, hY2, rfl⟩ := lw_ok h2 rfl
          refine ⟨Y2, List.mem_append_right _ (List.mem_append_left _ List.mem_cons_self), oneCase_ok hY2 (List.forall_mem_cons.mpr ⟨el_of k5 g1.1 g1.2, fun _ hh => (by cases hh)⟩) hr' (fun ρ' ha => ?_)⟩
          obtain ⟨x1, y1, x2, y2, w1, w2, w3, w4, w5⟩ := key ρ' ha
          rcases sstep_cases w4 with ⟨v1, v2, v3⟩ | ⟨v1, v2, v3⟩ | ⟨v1, v2, v3⟩
          · omega
          · refine pr_c5 (hp ρ' ha) ?_
            rw [hc, w1, w2, v2, v3]
            exact w3
          · omega
        · obtain ⟨Y3, hY3, rfl⟩ := lw_ok h3 (by
            cases hz : le0 tab fs b with
            | false => rfl
            | true => have := le0_ok (hr' ρ agr2.rf).1 (hr' ρ agr2.rf).2.1 hz; omega)
          refine ⟨Y3, List.mem_append_right _ (List.mem_append_right _ List.mem_cons_self), oneCase_ok hY3 (List.forall_mem_cons.mpr ⟨el_of k5 g1.1 g1.2, fun _ hh => (by cases hh)⟩) (fun ρ' ha => ?_) (fun ρ' ha => ?_)⟩
          · obtain ⟨x1, y1, x2, y2, w1, w2, w3, w4, w5⟩ := key ρ' ha
            rcases sstep_cases w4 with ⟨v1, v2, v3⟩ | ⟨v1, v2, v3⟩ | ⟨v1, v2, v3⟩
            · omega
            · omega
            · exact ⟨(hr' ρ' ha).1, fOk_cons (hr' ρ' ha).2.1 (by rw [ev_sub, ev_k, w2]; omega), (hr' ρ' ha).2.2⟩
          · obtain ⟨x1, y1, x2, y2, w1, w2, w3, w4, w5⟩ := key ρ' ha
            rcases sstep_cases w4 with ⟨v1, v2, v3⟩ | ⟨v1, v2, v3⟩ | ⟨v1, v2, v3⟩
            · omega
            · omega
            · refine pr_c5 (hp ρ' ha) ?_
              rw [hc, ev_plu, w1, w2, show (y1 : Int) + .negSucc 0 = (y2 : Int) by omega, v2]
              exact w3
      · cases h
    · cases h
  · cases h
/-- another word of the same code, longer than c -/
noncomputable def longer (tab : Tb) (fs : List Ln) (q c : Nat) : List PD → Bool
  | [] => false
  | (k, [q'], [s, _]) :: r => bif (bif Nat.beq k 4 then (bif Nat.beq q q' then le0 tab fs (subL (kL (.ofNat (Nat.succ c))) s) else false) else false) then true else longer tab fs q c r
  | _ :: r => longer tab fs q c r
theorem longer_ok {q c : Nat} {tab : Tb} {fs : List Ln} {pr : List PD} (h : longer tab fs q c pr = true) : ∃ s d, (4, [q], [s, d]) ∈ pr ∧ le0 tab fs (subL (kL (.ofNat (Nat.succ c))) s) = true := by
  induction pr with
  | nil => cases h
  | cons p r ih =>
    unfold longer at h
    split at h
    · cases h
    · rename_i k q' s d r' heq
      cases heq
      cases z : (bif Nat.beq k 4 then (bif Nat.beq q q' then le0 tab fs (subL (kL (.ofNat (Nat.succ c))) s) else false) else false) with
      | false =>
        rw [z] at h
        obtain ⟨s', d', h1, h2⟩ := ih h
        exact ⟨s', d', List.mem_cons_of_mem _ h1, h2⟩
      | true =>
        obtain ⟨z1, z⟩ := cand z
        obtain ⟨z2, z3⟩ := cand z
        have e1 := Nat.eq_of_beq_eq_true z1
        have e2 := Nat.eq_of_beq_eq_true z2
        subst e1; subst e2
        exact ⟨s, d, List.mem_cons_self, z3⟩
    · rename_i heq
      cases heq
      obtain ⟨s', d', h1, h2⟩ := ih h
      exact ⟨s', d', List.mem_cons_of_mem _ h1, h2⟩
/-- the next sign of a code, case by case -/
noncomputable def fNext (f loc : Nat) : HF := fun _ lv A pr nx tab fs => match rowF lv A f, cstAt loc lv A tab with
  | some q, some c => (match findC tab 4 q c pr with
    | some [d] => bif longer tab fs q c pr then three (lw false (oneCase [(q, c, 0, 1)] A ((4, [q], [kL (.ofNat (Nat.succ c)), pluL d 1]) :: pr) nx tab fs)) (lw (le0 tab fs d) (oneCase [(q, c, 2, 3)] A ((4, [q], [kL (.ofNat (Nat.succ c)), d]) :: pr) nx tab (subL (kL 1) d :: fs))) (lw (le0 tab fs (pluL d (.negSucc 0))) (oneCase [(q, c, 4, 12)] A ((4, [q], [kL (.ofNat (Nat.succ c)), pluL d (.negSucc 0)]) :: pr) nx tab (subL (kL 2) d :: fs))) else none
    | _ => none)
  | _, _ => none
theorem fNext_ok (f loc : Nat) : HFOk PPk (fNext f loc) := by
  intro pc lv A pr nx tab fs L ρ clv cσ h hr hp
  have hr' : ∀ ρ', agr2 nx ρ ρ' → tOk ρ' tab ∧ fOk ρ' fs ∧ rel2 (crel ρ') cσ A := fun ρ' ha => ⟨(hr ρ' ha).1, (hr ρ' ha).2.1, (hr ρ' ha).2.2.2⟩
  unfold fNext at h
  split at h
  · rename_i q c _ _
    split at h
    · rename_i d hf
      cases hlg : longer tab fs q c pr with
      | false => rw [hlg] at h; cases h
      | true =>
        rw [hlg] at h
        simp only [cond_true] at h
        unfold three at h
        split at h
        · rename_i Q1 Q2 Q3 h1 h2 h3
          cases h
          obtain ⟨e, m1, m2⟩ := findC_ok hf
          obtain ⟨s, dd, l1, l2⟩ := longer_ok hlg
          have key : ∀ ρ', agr2 nx ρ ρ' → ∃ m m' : Nat, ev ρ' d = (m : Int) ∧ okCode (arrI (cσ.getD q (.inl (0, [])))) ((Nat.succ c : Nat) : Int) (m' : Int) ∧ cstep (some m) ((arrI (cσ.getD q (.inl (0, [])))).getD c 0) = some m' ∧ c < (arrI (cσ.getD q (.inl (0, [])))).length := fun ρ' ha => by
            obtain ⟨n, m, q1, q2, q3, q4⟩ := pn4 (hp ρ' ha) m1
            obtain ⟨n2, mm, r1, r2, r3, r4⟩ := pn4 (hp ρ' ha) l1
            rw [cst_ok (hr ρ' ha).1 m2] at q1
            have hn : n = c := by omega
            subst hn
            have l3 := le0_ok (hr' ρ' ha).1 (hr' ρ' ha).2.1 l2
            rw [ev_sub, ev_k, r1] at l3
            have l4 : n + 1 ≤ n2 := by
              have : ((Nat.succ n : Nat) : Int) - (n2 : Int) ≤ 0 := l3
              omega
            obtain ⟨m', q6⟩ := code_pre (l := arrI (cσ.getD q (.inl (0, [])))) (n := n + 1) (k := n2 - (n + 1)) (m := mm) (by omega) (by rw [show n + 1 + (n2 - (n + 1)) = n2 by omega]; exact r4)
            refine ⟨m, m', q2, ⟨n + 1, m', rfl, rfl, by omega, q6⟩, ?_, by omega⟩
            rw [code_snoc (by omega), q4] at q6
            exact q6
          have hc : ∀ ρ', ev ρ' (kL (.ofNat (Nat.succ c))) = ((Nat.succ c : Nat) : Int) := fun ρ' => ev_k ρ' _
          obtain ⟨m, m', k1, k2, k3, k4⟩ := key ρ agr2.rf
          rcases cstep_cases k3 with ⟨g1, g2⟩ | ⟨g1, g2, g3⟩ | ⟨g1, g2, g3⟩
          · obtain ⟨Y1, hY1, rfl⟩ := lw_ok h1 rfl
            refine ⟨Y1, List.mem_append_left _ List.mem_cons_self, oneCase_ok hY1 (List.forall_mem_cons.mpr ⟨el_of k4 g1.1 g1.2, fun _ hh => (by cases hh)⟩) hr' (fun ρ' ha => ?_)⟩
            obtain ⟨m1', m2', w1, w2, w3, w4⟩ := key ρ' ha
            rcases cstep_cases w3 with ⟨v1, v2⟩ | ⟨v1, v2, v3⟩ | ⟨v1, v2, v3⟩
            · refine pr_c4 (hp ρ' ha) ?_
              rw [hc, ev_plu, w1, show (m1' : Int) + 1 = (m2' : Int) by omega]
              exact w2
            · omega
            · omega
          · obtain ⟨Y2, hY2, rfl⟩ := lw_ok h2 (by
              cases hz : le0 tab fs d with
              | false => rfl
              | true => have := le0_ok (hr' ρ agr2.rf).1 (hr' ρ agr2.rf).2.1 hz; omega)
            refine ⟨Y2, List.mem_append_right _ (List.mem_append_left _ List.mem_cons_self), oneCase_ok hY2 (List.forall_mem_cons.mpr ⟨el_of k4 g1.1 g1.2, fun _ hh => (by cases hh)⟩) (fun ρ' ha => ?_) (fun ρ' ha => ?_)⟩
            · obtain ⟨m1', m2', w1, w2, w3, w4⟩ := key ρ' ha
              rcases cstep_cases w3 with ⟨v1, v2⟩ | ⟨v1, v2, v3⟩ | ⟨v1, v2, v3⟩
              · omega
              · exact ⟨(hr' ρ' ha).1, fOk_cons (hr' ρ' ha).2.1 (by rw [ev_sub, ev_k, w1]; omega), (hr' ρ' ha).2.2⟩
              · omega
            · obtain ⟨m1', m2', w1, w2, w3, w4⟩ := key ρ' ha
              rcases cstep_cases w3 with ⟨v1, v2⟩ | ⟨v1, v2, v3⟩ | ⟨v1, v2, v3⟩
              · omega
              · refine pr_c4 (hp ρ' ha) ?_
                rw [hc, w1, ← v3]
                exact w2
              · omega
          · obtain ⟨Y3, hY3, rfl⟩ := lw_ok h3 (by
              cases hz : le0 tab fs (pluL d (.negSucc 0)) with
              | false => rfl
              | true =>
                have := le0_ok (hr' ρ agr2.rf).1 (hr' ρ agr2.rf).2.1 hz
                rw [ev_plu] at this
                omega)
            refine ⟨Y3, List.mem_append_right _ (List.mem_append_right _ List.mem_cons_self), oneCase_ok hY3 (List.forall_mem_cons.mpr ⟨el_of k4 g1.1 g1.2, fun _ hh => (by cases hh)⟩) (fun ρ' ha => ?_) (fun ρ' ha => ?_)⟩
            · obtain ⟨m1', m2', w1, w2, w3, w4⟩ := key ρ' ha
              rcases cstep_cases w3 with ⟨v1, v2⟩ | ⟨v1, v2, v3⟩ | ⟨v1, v2, v3⟩
              · omega
              · omega
              · exact ⟨(hr' ρ' ha).1, fOk_cons (hr' ρ' ha).2.1 (by rw [ev_sub, ev_k, w1]; omega), (hr' ρ' ha).2.2⟩
            · obtain ⟨m1', m2', w1, w2, w3, w4⟩ := key ρ' ha
              rcases cstep_cases w3 with ⟨v1, v2⟩ | ⟨v1, v2, v3⟩ | ⟨v1, v2, v3⟩
              · omega
              · omega
              · refine pr_c4 (hp ρ' ha) ?_
                rw [hc, ev_plu, w1, show (m1' : Int) + .negSucc 0 = (m2' : Int) by omega]
                exact w2
        · cases h
    · cases h
  · cases h
/-- what the numbers of such words keep to -/
noncomputable def wordFs : List PD → List Ln
  | [] => []
  | (k, [_], [s, d]) :: r => bif Nat.beq k 4 then sclL (.negSucc 0) d :: subL d s :: wordFs r else wordFs r
  | (k, [_], [w, o, b]) :: r => bif Nat.beq k 5 then sclL (.negSucc 0) o :: sclL (.negSucc 0) b :: subL (addL o b) w :: wordFs r else wordFs r
  | _ :: r => wordFs r
theorem wordFs_ok {ρ : Nat → Int} {cσ : SH} {pr : List PD} (h : prOk PPk ρ cσ pr) : fOk ρ (wordFs pr) := by
  induction pr with
  | nil => intro q hq; cases hq
  | cons p r ih =>
    have hr := ih (fun q hq => h q (List.mem_cons_of_mem _ hq))
    have hp := h p List.mem_cons_self
    unfold wordFs
    split
    · intro q hq; cases hq
    · rename_i k q s d r' heq
      cases heq
      cases z : Nat.beq k 4 with
      | false => exact hr
      | true =>
        have e := Nat.eq_of_beq_eq_true z
        subst e
        obtain ⟨n, m, q1, q2, q3, q4⟩ := pn4 (q := q) h List.mem_cons_self
        have := code_le q3 q4
        refine fOk_cons (fOk_cons hr ?_) ?_
        · rw [ev_sub, q1, q2]; omega
        · rw [ev_scl, q2, show (Int.negSucc 0) * (m : Int) = - (m : Int) by show (-1) * _ = _; omega]; omega
    · rename_i k q w o b r' heq
      cases heq
      cases z : Nat.beq k 5 with
      | false => exact hr
      | true =>
        have e := Nat.eq_of_beq_eq_true z
        subst e
        obtain ⟨n, x, y, q1, q2, q3, q4, q5⟩ := pn5 (q := q) h List.mem_cons_self
        have := stk_le q4 q5
        refine fOk_cons (fOk_cons (fOk_cons hr ?_) ?_) ?_
        · rw [ev_sub, ev_add, q1, q2, q3]; omega
        · rw [ev_scl, q3, show (Int.negSucc 0) * (y : Int) = - (y : Int) by show (-1) * _ = _; omega]; omega
        · rw [ev_scl, q2, show (Int.negSucc 0) * (x : Int) = - (x : Int) by show (-1) * _ = _; omega]; omega
    · rename_i heq
      cases heq
      exact hr
noncomputable def fWords : HF := fun _ _ A pr nx tab fs => some [(A, pr, nx, tab, wordFs pr ++ fs)]
theorem fWords_ok : HFOk PPk fWords := by
  intro pc lv A pr nx tab fs L ρ clv cσ h hr hp
  cases h
  refine ⟨_, List.mem_cons_self, hGood0 (fun ρ' ha => ⟨(hr ρ' ha).1, fun q hq => ?_, (hr ρ' ha).2.2.2⟩) hp⟩
  rcases List.mem_append.mp hq with hq | hq
  · exact wordFs_ok (hp ρ' ha) q hq
  · exact (hr ρ' ha).2.1 q hq
/-- such words forgotten, where a local has a value -/
noncomputable def fDrop (loc v : Nat) : HF := fun _ lv A pr nx tab fs => match cstAt loc lv A tab with
  | some c => bif Nat.beq c v then some [(A, pr.filter (fun p => bif p.2.2.isEmpty then true else Nat.ble 8 p.1), nx, tab, fs)] else none
  | none => none
theorem fDrop_ok (loc v : Nat) : HFOk PPk (fDrop loc v) := by
  intro pc lv A pr nx tab fs L ρ clv cσ h hr hp
  unfold fDrop at h
  split at h
  · rename_i c _
    cases z : Nat.beq c v with
    | false => rw [z] at h; cases h
    | true =>
      rw [z] at h
      cases h
      exact ⟨_, List.mem_cons_self, hGood0 (fun ρ' ha => ⟨(hr ρ' ha).1, (hr ρ' ha).2.1, (hr ρ' ha).2.2.2⟩) (fun ρ' ha p hq => hp ρ' ha p (List.mem_filter.mp hq).1)⟩
  · cases h
/-- a value up to c, above -/
noncomputable def fCut (loc : Nat) (c : Int) : HF := fun _ lv A pr nx tab fs => match srcV loc lv A with
  | some (.inl (false, (.ofNat 0, [(y, .ofNat 1)]))) => (match bndL tab (sL y) with
    | some (lo, hi) => bif (bif Nat.blt y nx then (bif leI lo c then leI (Int.add c 1) hi else false) else false) then some [(A, pr, nx, tbIns y lo c tab, fs), (A, pr, nx, tbIns y (Int.add c 1) hi tab, fs)] else none
    | _ => none)
  | _ => none
theorem fCut_ok (loc : Nat) (c : Int) : HFOk PPk (fCut loc c) := by
  intro pc lv A pr nx tab fs L ρ clv cσ h hr hp
  have hr0 := hr ρ agr2.rf
  unfold fCut at h
  split at h
  · rename_i y _
    split at h
    · rename_i lo hi hb
      cases z0 : (bif Nat.blt y nx then (bif leI lo c then leI (Int.add c 1) hi else false) else false) with
      | false => rw [z0] at h; cases h
      | true =>
        rw [z0] at h
        cases h
        have hy := blt_iff.mp (cand z0).1
        have hB := bndL_ok hr0.1 hb
        rw [ev_s] at hB
        have fin : ∀ a b : Int, a ≤ ρ y → ρ y ≤ b → HGood ρ nx cσ (A, pr, nx, tbIns y a b tab, fs) := fun a b h1 h2 => hGood0 (fun ρ' ha => by
          have hy' : ρ' y = ρ y := ha y hy
          exact ⟨tOk_cons (hr ρ' ha).1 (by rw [hy']; exact h1) (by rw [hy']; exact h2), (hr ρ' ha).2.1, (hr ρ' ha).2.2.2⟩) hp
        rcases (show c < ρ y ∨ ρ y ≤ c by omega) with hs | hs
        · exact ⟨_, List.mem_cons_of_mem _ List.mem_cons_self, fin _ _ hs hB.2⟩
        · exact ⟨_, List.mem_cons_self, fin _ _ hB.1 hs⟩
    · cases h
  · cases h
/-- a fault told: a flip and its cell, or no flip -/
noncomputable def fHarm (loc : Nat) : HF := fun _ lv A pr nx tab fs => match cstAt loc lv A tab, pr.find? (fun p => Nat.beq p.1 2) with
  | some v, some (_, [q], []) => bif Nat.blt v 8 then (match cellB tab A q (792 + 5 * v), cellB tab A q (795 + 5 * v) with
    | some (lo, hi), some (lo2, hi2) => allCases A pr nx tab fs ((bif leI 2 lo then [] else [[(q, 792 + 5 * v, lo, 1), (q, 795 + 5 * v, 0, 11)]]) ++ (bif leI hi 1 then [] else [[(q, 792 + 5 * v, 2, hi), (q, 795 + 5 * v, lo2, hi2)]]))
    | _, _ => none) else none
  | _, _ => none
theorem fHarm_ok (loc : Nat) : HFOk PPk (fHarm loc) := by
  intro pc lv A pr nx tab fs L ρ clv cσ h hr hp
  have hr' : ∀ ρ', agr2 nx ρ ρ' → tOk ρ' tab ∧ fOk ρ' fs ∧ rel2 (crel ρ') cσ A := fun ρ' ha => ⟨(hr ρ' ha).1, (hr ρ' ha).2.1, (hr ρ' ha).2.2.2⟩
  have hr0 := hr' ρ agr2.rf
  unfold fHarm at h
  split at h
  · rename_i v kk q _ hf
    have hm := List.mem_of_find?_eq_some hf
    have hk0 := List.find?_some (p := fun p : PD => Nat.beq p.1 2) hf
    have hk := Nat.eq_of_beq_eq_true hk0
    try dsimp only at hk
    subst hk
    cases z : Nat.blt v 8 with
    | false => rw [z] at h; cases h
    | true =>
      rw [z] at h
      simp only [cond_true] at h
      have hv := blt_iff.mp z
      split at h
      · rename_i lo hi lo2 hi2 c1 c2
        have hP : okHarm _ := hp ρ agr2.rf _ hm
        have b1 := cellB_ok hr0.1 hr0.2.2 c1
        have b2 := cellB_ok hr0.1 hr0.2.2 c2
        refine allCases_ok hr' hp _ L h ?_
        rcases (show gI (arrI (cσ.getD q (.inl (0, [])))) (792 + 5 * v) < 2 ∨ 2 ≤ gI (arrI (cσ.getD q (.inl (0, [])))) (792 + 5 * v) by omega) with hs | hs
        · have h4 := hP v hv hs
          refine ⟨[(q, 792 + 5 * v, lo, 1), (q, 795 + 5 * v, 0, 11)], List.mem_append_left _ ?_, List.forall_mem_cons.mpr ⟨el_of b1.1 b1.2.1 (Int.le_sub_one_of_lt hs), List.forall_mem_cons.mpr ⟨el_of b2.1 h4.1 h4.2, fun _ hh => (by cases hh)⟩⟩⟩
          cases z9 : leI 2 lo with
          | true => have := leI_le z9; have := b1.2.1; omega
          | false => exact List.mem_cons_self
        · refine ⟨[(q, 792 + 5 * v, 2, hi), (q, 795 + 5 * v, lo2, hi2)], List.mem_append_right _ ?_, List.forall_mem_cons.mpr ⟨el_of b1.1 hs b1.2.2, List.forall_mem_cons.mpr ⟨el_of b2.1 b2.2.1 b2.2.2, fun _ hh => (by cases hh)⟩⟩⟩
          cases z9 : leI hi 1 with
          | true => have := leI_le z9; have := b1.2.2; omega
          | false => exact List.mem_cons_self
      · cases h
  · cases h
theorem PPo_h {n : Nat} {l : List Int32} : PPo (n + 600) [l] = ((2000 ≤ n + 600 ∧ okStepsB (n + 600 - 2000) l) ∨ ((600 ≤ n + 600 ∧ n + 600 < 1000) ∧ okHarmB (n + 600 - 600) l)) := rfl
/-- a fault's place opened: anything may be laid there -/
noncomputable def fHarmO (loc : Nat) : HF := fun _ lv A pr nx tab fs => match cstAt loc lv A tab, pr.find? (fun p => Nat.beq p.1 2) with
  | some v, some (_, [q], []) => bif Nat.blt v 8 then some [(A, (Nat.add v 600, [q], []) :: pr, nx, tab, fs)] else none
  | _, _ => none
theorem fHarmO_ok (loc : Nat) : HFOk PPk (fHarmO loc) := by
  intro pc lv A pr nx tab fs L ρ clv cσ h hr hp
  unfold fHarmO at h
  split at h
  · rename_i v kk q _ hf
    have hm := List.mem_of_find?_eq_some hf
    have hk0 := List.find?_some (p := fun p : PD => Nat.beq p.1 2) hf
    have hk := Nat.eq_of_beq_eq_true hk0
    try dsimp only at hk
    subst hk
    cases z : Nat.blt v 8 with
    | false => rw [z] at h; cases h
    | true =>
      rw [z] at h
      cases h
      have hv := blt_iff.mp z
      refine ⟨_, List.mem_cons_self, hGood0 (fun ρ' ha => ⟨(hr ρ' ha).1, (hr ρ' ha).2.1, (hr ρ' ha).2.2.2⟩) (fun ρ' ha => List.forall_mem_cons.mpr ⟨?_, hp ρ' ha⟩)⟩
      have hP : okHarm (arrI (cσ.getD q (.inl (0, [])))) := hp ρ' ha _ hm
      show PPo (v + 600) [arrI (cσ.getD q (.inl (0, [])))]
      rw [PPo_h]
      exact Or.inr ⟨⟨by omega, by omega⟩, fun i hi _ => hP i hi⟩
  · cases h
/-- closed again -/
noncomputable def fHarmC (loc : Nat) : HF := fun _ lv A pr nx tab fs => match cstAt loc lv A tab with
  | some v => (match pr.find? (fun p => Nat.beq p.1 (Nat.add v 600)) with
    | some (_, [q], []) => bif Nat.blt v 8 then (match cellB tab A q (792 + 5 * v), cellB tab A q (795 + 5 * v) with
      | some (lo, _), some (lo2, hi2) => bif (bif leI 2 lo then true else rIn lo2 hi2 0 11) then some [(A, (2, [q], []) :: pr, nx, tab, fs)] else none
      | _, _ => none) else none
    | _ => none)
  | none => none
theorem fHarmC_ok (loc : Nat) : HFOk PPk (fHarmC loc) := by
  intro pc lv A pr nx tab fs L ρ clv cσ h hr hp
  unfold fHarmC at h
  split at h
  · rename_i v _
    split at h
    · rename_i kk q hf
      have hm := List.mem_of_find?_eq_some hf
      have hk0 := List.find?_some (p := fun p : PD => Nat.beq p.1 (Nat.add v 600)) hf
      have hk := Nat.eq_of_beq_eq_true hk0
      try dsimp only at hk
      subst hk
      cases z : Nat.blt v 8 with
      | false => rw [z] at h; cases h
      | true =>
        rw [z] at h
        simp only [cond_true] at h
        have hv := blt_iff.mp z
        split at h
        · rename_i lo hi lo2 hi2 c1 c2
          cases z2 : (bif leI 2 lo then true else rIn lo2 hi2 0 11) with
          | false => rw [z2] at h; cases h
          | true =>
            rw [z2] at h
            cases h
            refine ⟨_, List.mem_cons_self, hGood0 (fun ρ' ha => ⟨(hr ρ' ha).1, (hr ρ' ha).2.1, (hr ρ' ha).2.2.2⟩) (fun ρ' ha => List.forall_mem_cons.mpr ⟨?_, hp ρ' ha⟩)⟩
            have hP : PPo (v + 600) [arrI (cσ.getD q (.inl (0, [])))] := hp ρ' ha _ hm
            rw [PPo_h] at hP
            have hB : okHarmB (v + 600 - 600) (arrI (cσ.getD q (.inl (0, [])))) := by
              rcases hP with hP | hP
              · exact absurd hP.1 (by omega)
              · exact hP.2
            have b1 := cellB_ok (hr ρ' ha).1 (hr ρ' ha).2.2.2 c1
            have b2 := cellB_ok (hr ρ' ha).1 (hr ρ' ha).2.2.2 c2
            show okHarm (arrI (cσ.getD q (.inl (0, []))))
            intro i hi hlt
            rcases Nat.decEq i v with hne | he
            · exact hB i hi (by omega) hlt
            · subst he
              cases z3 : leI 2 lo with
              | true =>
                have := leI_le z3
                have := b1.2.1
                omega
              | false =>
                rw [z3] at z2
                exact rIn_ok z2 b2.2.1 b2.2.2
        · cases h
    · cases h
  · cases h
/-- a row so near to 0 that the faults told in it are right -/
noncomputable def fHarmN (f : Nat) : HF := fun _ lv A pr nx tab fs => match rowF lv A f with
  | some q => (match hullC tab A q 910 with
    | some (lo, hi) => bif rIn lo hi 0 11 then some [(A, (2, [q], []) :: pr, nx, tab, fs)] else none
    | none => none)
  | none => none
theorem fHarmN_ok (f : Nat) : HFOk PPk (fHarmN f) := by
  intro pc lv A pr nx tab fs L ρ clv cσ h hr hp
  unfold fHarmN at h
  split at h
  · rename_i q _
    split at h
    · rename_i lo hi hc
      cases z : rIn lo hi 0 11 with
      | false => rw [z] at h; cases h
      | true =>
        rw [z] at h
        cases h
        refine ⟨_, List.mem_cons_self, hGood0 (fun ρ' ha => ⟨(hr ρ' ha).1, (hr ρ' ha).2.1, (hr ρ' ha).2.2.2⟩) (fun ρ' ha => List.forall_mem_cons.mpr ⟨?_, hp ρ' ha⟩)⟩
        have g := hullC_ok (hr ρ' ha).1 (hr ρ' ha).2.2.2 hc
        show okHarm (arrI (cσ.getD q (.inl (0, []))))
        intro i hi _
        have := g.2 (795 + 5 * i) (by omega)
        exact rIn_ok z this.1 this.2
    · cases h
  · cases h
