/-! ===== a text's fault: reading by tokens ===== -/
/-- what a character is: 0 a blank, 1 none of these, 2 a digit, 3 a name, 4 5 the brackets, 6 '!', 7 the end, 8 '|', 9 '&', 10 '<' '=' '>', 11 '-', 12 '+', 13 '*' '/' -/
noncomputable def rdC (v : Int) : Nat := if v = 32 then 0 else if 48 ≤ v ∧ v ≤ 57 then 2 else if v = 104 ∨ v = 118 ∨ v = 110 ∨ v = 100 ∨ v = 109 ∨ v = 102 then 3 else if v = 40 then 4 else if v = 41 then 5 else if v = 33 then 6 else if v = 45 then 11 else if v = 42 ∨ v = 47 then 13 else if v = 43 then 12 else if 60 ≤ v ∧ v ≤ 62 then 10 else if v = 38 then 9 else if v = 124 then 8 else 1
/-- how tight a sign between two is; 0: no such sign -/
noncomputable def rdT (k : Nat) : Nat := if k = 13 then 5 else if k = 12 ∨ k = 11 then 4 else if k = 10 then 3 else if k = 9 then 2 else if k = 8 then 1 else 0
/-- so many digits lead -/
noncomputable def rdRun : List Int → Nat
  | [] => 0
  | v :: r => if rdC v = 2 then rdRun r + 1 else 0
/-- place, whether a unit is whole, how deep, the outer levels' bits, whether this level has compared -/
abbrev RdS := Nat × Nat × Nat × Nat × Nat
/-- behind one character that begins no number, or what is found -/
noncomputable def rdNx (k : Nat) : RdS → RdS ⊕ Int
  | (i, w, d, b, c) =>
    if k = 0 then .inl (i + 1, w, d, b, c)
    else if w = 1 then
      if k = 5 ∧ 0 < d then .inl (i + 1, 1, d - 1, b / 2, b % 2)
      else if rdT k = 0 ∨ (rdT k = 3 ∧ c = 1) then .inr (10 * i + 1)
      else .inl (i + 1, 0, d, b, if rdT k = 3 then 1 else if rdT k < 3 then 0 else c)
    else if k = 3 then .inl (i + 1, 1, d, b, c)
    else if k = 4 then (if 8 ≤ d then .inr (10 * i + 3) else .inl (i + 1, 0, d + 1, 2 * b + c, 0))
    else if k = 6 ∨ k = 11 then .inl (i + 1, 0, d, b, c)
    else .inr (10 * i + 1)
/-- the next token, or what is found -/
noncomputable def rdSt (cs : List Int) (s : RdS) : RdS ⊕ Int :=
  match cs[s.1]? with
  | none => .inr (if s.2.1 = 1 ∧ s.2.2.1 = 0 then -1 else 10 * s.1 + 1)
  | some v => if s.2.1 ≠ 1 ∧ rdC v = 2 then (if 6 < rdRun (cs.drop s.1) then .inr (10 * s.1 + 2) else .inl (s.1 + rdRun (cs.drop s.1), 1, s.2.2)) else rdNx (rdC v) s
noncomputable def rdGo (cs : List Int) : Nat → Option RdS
  | 0 => some (0, 0, 0, 0, 0)
  | k + 1 => match rdGo cs k with
    | some s => (match rdSt cs s with
      | .inl t => some t
      | .inr _ => none)
    | none => none
noncomputable def okRe (cs : List Int) (s : RdS) : Prop := ∃ k, rdGo cs k = some s
noncomputable def okFa (cs : List Int) (f : Int) : Prop := ∃ s, okRe cs s ∧ rdSt cs s = .inr f
theorem okRe_0 (cs : List Int) : okRe cs (0, 0, 0, 0, 0) := ⟨0, rfl⟩
theorem okRe_step {cs : List Int} {s t : RdS} (h : okRe cs s) (e : rdSt cs s = .inl t) : okRe cs t := by
  obtain ⟨k, hk⟩ := h
  exact ⟨k + 1, by simp only [rdGo, hk, e]⟩
theorem rdGo_none {cs : List Int} {k j : Nat} (h : rdGo cs k = none) : rdGo cs (k + j) = none := by
  induction j with
  | zero => exact h
  | succ j ih =>
    show (match rdGo cs (k + j) with | some s => (match rdSt cs s with | .inl t => some t | .inr _ => none) | none => none) = none
    rw [ih]
theorem okFa_inj {cs : List Int} {f g : Int} (h : okFa cs f) (h' : okFa cs g) : f = g := by
  obtain ⟨s, ⟨k, hk⟩, es⟩ := h
  obtain ⟨t, ⟨j, hj⟩, et⟩ := h'
  have ns : rdGo cs (k + 1) = none := by simp only [rdGo, hk, es]
  have nt : rdGo cs (j + 1) = none := by simp only [rdGo, hj, et]
  have kj : k = j := by
    rcases Nat.lt_trichotomy k j with h | h | h
    · obtain ⟨m, rfl⟩ : ∃ m, j = k + 1 + m := ⟨j - (k + 1), by omega⟩
      rw [rdGo_none ns] at hj; cases hj
    · exact h
    · obtain ⟨m, rfl⟩ : ∃ m, k = j + 1 + m := ⟨k - (j + 1), by omega⟩
      rw [rdGo_none nt] at hk; cases hk
  subst kj
  rw [hk] at hj
  cases hj
  rw [es] at et
  exact Sum.inr.inj et
/-- characters and the number that they make -/
noncomputable def txN (cs : List Int) : Int := cs.foldl (fun t c => 128 * t + c) 0
noncomputable def okTx (cs : List Int) (n t : Int) : Prop := n = cs.length ∧ (∀ c ∈ cs, 0 ≤ c ∧ c ≤ 127) ∧ t = txN cs
theorem txN_app (cs : List Int) (c : Int) : txN (cs ++ [c]) = 128 * txN cs + c := by
  unfold txN
  rw [List.foldl_append]; rfl
theorem okTx_app {cs : List Int} {n t c : Int} (h : okTx cs n t) (h0 : 0 ≤ c) (h1 : c ≤ 127) : okTx (cs ++ [c]) (n + 1) (128 * t + c) := by
  obtain ⟨e, a, x⟩ := h
  refine ⟨by rw [List.length_append]; simp [e], ?_, by rw [txN_app, x]⟩
  intro v hv
  rcases List.mem_append.mp hv with hv | hv
  · exact a v hv
  · rw [List.mem_singleton.mp hv]; exact ⟨h0, h1⟩
theorem okTx_nil : okTx [] 0 0 := ⟨rfl, (fun c h => absurd h (List.not_mem_nil)), rfl⟩
theorem tx_inj : ∀ (m : Nat) {xs ys : List Int}, xs.length = m → ys.length = m → (∀ c ∈ xs, 0 ≤ c ∧ c ≤ 127) → (∀ c ∈ ys, 0 ≤ c ∧ c ≤ 127) → txN xs = txN ys → xs = ys := by
  intro m
  induction m with
  | zero =>
    intro xs ys hx hy _ _ _
    rw [List.eq_nil_of_length_eq_zero hx, List.eq_nil_of_length_eq_zero hy]
  | succ m ih =>
    intro xs ys hx hy ax ay e
    have nx : xs ≠ [] := fun h => by rw [h] at hx; cases hx
    have ny : ys ≠ [] := fun h => by rw [h] at hy; cases hy
    rw [← List.dropLast_concat_getLast nx, ← List.dropLast_concat_getLast ny] at e ⊢
    rw [txN_app, txN_app] at e
    have bx := ax _ (List.getLast_mem nx)
    have bY := ay _ (List.getLast_mem ny)
    have e1 : txN xs.dropLast = txN ys.dropLast := by omega
    have e2 : xs.getLast nx = ys.getLast ny := by omega
    rw [ih (by rw [List.length_dropLast, hx]; rfl) (by rw [List.length_dropLast, hy]; rfl) (fun c h => ax c (List.dropLast_subset _ h)) (fun c h => ay c (List.dropLast_subset _ h)) e1, e2]
theorem okTx_inj {xs ys : List Int} {n t : Int} (h : okTx xs n t) (h' : okTx ys n t) : xs = ys :=
  tx_inj xs.length rfl (by have := h.1; have := h'.1; omega) h.2.1 h'.2.1 (h.2.2.symm.trans h'.2.2)
/-- the words: reached; a character; what the character is (7: the end); the fault -/
noncomputable def wRe (n t i w d b c : Int) : Prop := ∃ (cs : List Int) (s : RdS), okTx cs n t ∧ okRe cs s ∧ i = s.1 ∧ w = s.2.1 ∧ d = s.2.2.1 ∧ b = s.2.2.2.1 ∧ c = s.2.2.2.2
noncomputable def wCh (n t i v : Int) : Prop := ∃ (cs : List Int) (k : Nat), okTx cs n t ∧ i = k ∧ cs[k]? = some v
noncomputable def wCl (n t i k : Int) : Prop := ∃ (cs : List Int) (j : Nat), okTx cs n t ∧ i = j ∧ ((j = cs.length ∧ k = 7) ∨ ∃ v, cs[j]? = some v ∧ k = rdC v)
noncomputable def wFa (n t f : Int) : Prop := ∃ cs : List Int, okTx cs n t ∧ okFa cs f
theorem wFa_inj {n t f g : Int} (h : wFa n t f) (h' : wFa n t g) : f = g := by
  obtain ⟨xs, hx, hf⟩ := h
  obtain ⟨ys, hy, hg⟩ := h'
  rw [okTx_inj hy hx] at hg
  exact okFa_inj hf hg
theorem wRe_0 {cs : List Int} {n t : Int} (h : okTx cs n t) : wRe n t 0 0 0 0 0 := ⟨cs, _, h, okRe_0 cs, rfl, rfl, rfl, rfl, rfl⟩
theorem wCh_bd {n t i v : Int} (h : wCh n t i v) : 0 ≤ v ∧ v ≤ 127 := by
  obtain ⟨cs, k, hx, _, hv⟩ := h
  exact hx.2.1 v (List.mem_of_getElem? hv)
theorem wCh_lt {n t i v : Int} (h : wCh n t i v) : 0 ≤ i ∧ i < n := by
  obtain ⟨cs, k, hx, rfl, hv⟩ := h
  obtain ⟨hk, _⟩ := List.getElem?_eq_some_iff.mp hv
  rw [hx.1]; omega
/-- one token more -/
theorem wRe_tok {n t v : Int} {i w d b c : Nat} {s : RdS} (h : wRe n t i w d b c) (hc : wCh n t i v) (hd : ¬ (w ≠ 1 ∧ rdC v = 2)) (e : rdNx (rdC v) (i, w, d, b, c) = .inl s) : wRe n t s.1 s.2.1 s.2.2.1 s.2.2.2.1 s.2.2.2.2 := by
  obtain ⟨cs, ⟨i', w', d', b', c'⟩, hx, hr, e1, e2, e3, e4, e5⟩ := h
  obtain ⟨cs', k, hx', ek, hv⟩ := hc
  cases okTx_inj hx hx'
  cases Int.ofNat.inj e1; cases Int.ofNat.inj e2; cases Int.ofNat.inj e3; cases Int.ofNat.inj e4; cases Int.ofNat.inj e5; cases Int.ofNat.inj ek
  refine ⟨cs, s, hx, okRe_step hr ?_, rfl, rfl, rfl, rfl, rfl⟩
  simp only [rdSt, hv, if_neg hd, e]
/-- what one character tells as a fault -/
theorem wFa_tok {n t v f : Int} {i w d b c : Nat} (h : wRe n t i w d b c) (hc : wCh n t i v) (hd : ¬ (w ≠ 1 ∧ rdC v = 2)) (e : rdNx (rdC v) (i, w, d, b, c) = .inr f) : wFa n t f := by
  obtain ⟨cs, ⟨i', w', d', b', c'⟩, hx, hr, e1, e2, e3, e4, e5⟩ := h
  obtain ⟨cs', k, hx', ek, hv⟩ := hc
  cases okTx_inj hx hx'
  cases Int.ofNat.inj e1; cases Int.ofNat.inj e2; cases Int.ofNat.inj e3; cases Int.ofNat.inj e4; cases Int.ofNat.inj e5; cases Int.ofNat.inj ek
  refine ⟨cs, hx, _, hr, ?_⟩
  simp only [rdSt, hv, if_neg hd, e]
/-- at the end of the text -/
theorem wFa_end {n t : Int} {w d b c : Nat} (h : wRe n t n w d b c) : wFa n t (if w = 1 ∧ d = 0 then -1 else 10 * n + 1) := by
  obtain ⟨cs, ⟨i', w', d', b', c'⟩, hx, hr, e1, e2, e3, e4, e5⟩ := h
  cases Int.ofNat.inj e2; cases Int.ofNat.inj e3; cases Int.ofNat.inj e4; cases Int.ofNat.inj e5
  refine ⟨cs, hx, _, hr, ?_⟩
  have el : i' = cs.length := by have := hx.1; omega
  have en : cs[i']? = none := List.getElem?_eq_none (by omega)
  simp only [rdSt, en]
  rw [show (i' : Int) = n from e1.symm]
/-- from place f on so many digits -/
noncomputable def wDg (n t f k : Int) : Prop := ∃ (cs : List Int) (a m : Nat), okTx cs n t ∧ f = a ∧ k = m ∧ a + m ≤ cs.length ∧ ∀ j, j < m → ∃ v, cs[a + j]? = some v ∧ rdC v = 2
theorem wDg_0 {n t f : Int} {w d b c : Int} (h : wRe n t f w d b c) (hf : f ≤ n) : wDg n t f 0 := by
  obtain ⟨cs, ⟨i', w', d', b', c'⟩, hx, hr, e1, _⟩ := h
  exact ⟨cs, i', 0, hx, e1, rfl, by have := hx.1; simp only at e1; omega, fun j hj => absurd hj (Nat.not_lt_zero j)⟩
theorem wDg_s {n t f k v : Int} (h : wDg n t f k) (hc : wCh n t (f + k) v) (hv : rdC v = 2) : wDg n t f (k + 1) := by
  obtain ⟨cs, a, m, hx, rfl, rfl, hl, hd⟩ := h
  obtain ⟨cs', j, hx', ej, hj⟩ := hc
  cases okTx_inj hx hx'
  have ej' : j = a + m := by omega
  subst ej'
  obtain ⟨hk, _⟩ := List.getElem?_eq_some_iff.mp hj
  refine ⟨cs, a, m + 1, hx, rfl, by simp, by omega, fun i hi => ?_⟩
  by_cases h' : i < m
  · exact hd i h'
  · have : i = m := by omega
    subst this
    exact ⟨v, hj, hv⟩
theorem rdRun_ge : ∀ (m : Nat) (l : List Int), (∀ j, j < m → ∃ v, l[j]? = some v ∧ rdC v = 2) → m ≤ rdRun l
  | 0, _, _ => Nat.zero_le _
  | m + 1, [], h => by obtain ⟨v, hv, _⟩ := h 0 (Nat.succ_pos m); cases hv
  | m + 1, x :: r, h => by
    obtain ⟨v, hv, h2⟩ := h 0 (Nat.succ_pos m)
    cases hv
    have := rdRun_ge m r (fun j hj => h (j + 1) (Nat.succ_lt_succ hj))
    simp only [rdRun, if_pos h2]; omega
theorem rdRun_eq : ∀ (m : Nat) (l : List Int), (∀ j, j < m → ∃ v, l[j]? = some v ∧ rdC v = 2) → (∀ v, l[m]? = some v → rdC v ≠ 2) → rdRun l = m
  | 0, [], _, _ => rfl
  | 0, x :: r, _, h => by simp only [rdRun, if_neg (h x rfl)]
  | m + 1, [], h, _ => by obtain ⟨v, hv, _⟩ := h 0 (Nat.succ_pos m); cases hv
  | m + 1, x :: r, h, h' => by
    obtain ⟨v, hv, h2⟩ := h 0 (Nat.succ_pos m)
    cases hv
    simp only [rdRun, if_pos h2, rdRun_eq m r (fun j hj => h (j + 1) (Nat.succ_lt_succ hj)) (fun v hv => h' v hv)]
theorem getE_drop (cs : List Int) (a j : Nat) : (cs.drop a)[j]? = cs[a + j]? := List.getElem?_drop
/-- a number whole -/
theorem wRe_dig {n t f k : Int} {d b c : Nat} (h : wRe n t f 0 d b c) (hd : wDg n t f k) (h1 : 1 ≤ k) (h6 : k ≤ 6) (he : f + k = n ∨ ∃ v, wCh n t (f + k) v ∧ rdC v ≠ 2) : wRe n t (f + k) 1 d b c := by
  obtain ⟨cs, ⟨i', w', d', b', c'⟩, hx, hr, e1, e2, e3, e4, e5⟩ := h
  obtain ⟨cs', a, m, hx', ea, rfl, hl, hd⟩ := hd
  cases okTx_inj hx hx'
  have w0 : w' = 0 := by simp only at e2; omega
  have ia : i' = a := by simp only at e1; omega
  have d0 : d' = d := by simp only at e3; omega
  have b0 : b' = b := by simp only at e4; omega
  have c0 : c' = c := by simp only at e5; omega
  subst w0; subst ia; subst d0; subst b0; subst c0
  have hrun : rdRun (cs.drop i') = m := by
    refine rdRun_eq m _ (fun j hj => by rw [getE_drop]; exact hd j hj) (fun v hv => ?_)
    rw [getE_drop] at hv
    rcases he with he | ⟨u, ⟨cs', k, hx2, ek, hu⟩, h2⟩
    · have := hx.1
      rw [List.getElem?_eq_none (by omega)] at hv; cases hv
    · cases okTx_inj hx hx2
      have : k = i' + m := by omega
      subst this
      rw [hu] at hv; cases hv; exact h2
  obtain ⟨v, hv, h2⟩ := hd 0 (by omega)
  refine ⟨cs, (i' + m, 1, d', b', c'), hx, okRe_step hr ?_, by simp only; omega, rfl, rfl, rfl, rfl⟩
  have hv' : cs[i']? = some v := hv
  simp only [rdSt, hv']
  rw [if_pos ⟨by decide, h2⟩, hrun, if_neg (by omega)]
/-- a number too long -/
theorem wFa_dig {n t f : Int} {d b c : Nat} (h : wRe n t f 0 d b c) (hd : wDg n t f 7) : wFa n t (10 * f + 2) := by
  obtain ⟨cs, ⟨i', w', d', b', c'⟩, hx, hr, e1, e2, e3, e4, e5⟩ := h
  obtain ⟨cs', a, m, hx', ea, em, hl, hd⟩ := hd
  cases okTx_inj hx hx'
  have w0 : w' = 0 := by simp only at e2; omega
  have ia : i' = a := by simp only at e1; omega
  subst w0; subst ia
  have hrun : 7 ≤ rdRun (cs.drop i') := Nat.le_trans (by omega) (rdRun_ge m _ (fun j hj => by rw [getE_drop]; exact hd j hj))
  obtain ⟨v, hv, h2⟩ := hd 0 (by omega)
  refine ⟨cs, hx, _, hr, ?_⟩
  have hv' : cs[i']? = some v := hv
  simp only [rdSt, hv']
  rw [if_pos ⟨by decide, h2⟩, if_pos (by omega)]
  simp only at e1; rw [e1]
/-- the model's waiting signs, by the code: how tight -/
noncomputable def hoT (x : Int) : Nat := if x = 2 ∨ x = 3 then 6 else if x = 4 ∨ x = 5 then 5 else if x = 6 ∨ x = 7 then 4 else if x = 8 ∨ x = 9 ∨ x = 10 then 3 else if x = 11 then 2 else if x = 12 then 1 else 0
abbrev WtS := Nat × Nat × Nat × Nat
/-- a sign more waits: how deep, the outer levels' bits, whether this level compares, the top's tightness -/
noncomputable def wtP (s : Option WtS) (x : Int) : Option WtS := match s with
  | none => none
  | some (d, b, c, t) => if x = 13 then some (d + 1, 2 * b + c, 0, 0) else if x = 2 ∨ x = 3 then some (d, b, c, 6) else if 4 ≤ x ∧ x ≤ 12 then (if t < hoT x then some (d, b, if hoT x = 3 then 1 else c, hoT x) else none) else none
noncomputable def wtF (l : List Int) : Option WtS := l.foldl wtP (some (0, 0, 0, 0))
theorem wtF_app (l : List Int) (x : Int) : wtF (l ++ [x]) = wtP (wtF l) x := by unfold wtF; rw [List.foldl_append]; rfl
theorem hoT_le (x : Int) : hoT x ≤ 6 := by unfold hoT; (repeat' split) <;> omega
theorem wtP_bd {s : WtS} {x : Int} {r : WtS} (h : s.2.2.1 ≤ 1 ∧ (s.2.2.1 = 1 → 3 ≤ s.2.2.2) ∧ s.2.2.2 ≤ 6) (e : wtP (some s) x = some r) : r.2.2.1 ≤ 1 ∧ (r.2.2.1 = 1 → 3 ≤ r.2.2.2) ∧ r.2.2.2 ≤ 6 := by
  obtain ⟨d, b, c, t⟩ := s
  have hx := hoT_le x
  simp only [wtP] at e
  split at e
  · cases e; exact ⟨Nat.zero_le _, (fun h => nomatch h), Nat.zero_le _⟩
  split at e
  · cases e; exact ⟨h.1, (fun _ => (by decide : 3 ≤ 6)), Nat.le_refl _⟩
  split at e
  · split at e
    · rename_i ht
      cases e
      try dsimp only at h ⊢
      refine ⟨by split <;> omega, fun h' => ?_, hx⟩
      split at h'
      · omega
      · have := h.2.1 h'; omega
    · cases e
  · cases e
theorem wtF_bd : ∀ (m : Nat) {l : List Int} {s : WtS}, l.length = m → wtF l = some s → s.2.2.1 ≤ 1 ∧ (s.2.2.1 = 1 → 3 ≤ s.2.2.2) ∧ s.2.2.2 ≤ 6
  | 0, l, s, hl, e => by
    rw [List.eq_nil_of_length_eq_zero hl] at e
    cases e; exact ⟨Nat.zero_le _, (fun h => nomatch h), Nat.zero_le _⟩
  | m + 1, l, s, hl, e => by
    have nl : l ≠ [] := fun h => by rw [h] at hl; cases hl
    rw [← List.dropLast_concat_getLast nl, wtF_app] at e
    cases hq : wtF l.dropLast with
    | none => rw [hq] at e; cases e
    | some q =>
      rw [hq] at e
      exact wtP_bd (wtF_bd m (by rw [List.length_dropLast, hl]; rfl) hq) e
/-- a sign less: what was below -/
theorem wtF_pop {l : List Int} {x : Int} {d b c t : Nat} (e : wtF (l ++ [x]) = some (d, b, c, t)) : ∃ d' b' c' t', wtF l = some (d', b', c', t') ∧ c' ≤ 1 ∧ t' ≤ 6 ∧ ((x = 13 ∧ d = d' + 1 ∧ b = 2 * b' + c' ∧ c = 0 ∧ t = 0) ∨ ((x = 2 ∨ x = 3) ∧ d = d' ∧ b = b' ∧ c = c' ∧ t = 6) ∨ ((4 ≤ x ∧ x ≤ 12) ∧ d = d' ∧ b = b' ∧ t = hoT x ∧ t' < t ∧ ((t = 3 ∧ c = 1 ∧ c' = 0) ∨ (t ≠ 3 ∧ c = c')))) := by
  rw [wtF_app] at e
  cases hq : wtF l with
  | none => rw [hq] at e; cases e
  | some q =>
    obtain ⟨d', b', c', t'⟩ := q
    have hb := wtF_bd l.length rfl hq
    try dsimp only at hb
    rw [hq] at e
    simp only [wtP] at e
    refine ⟨d', b', c', t', rfl, hb.1, hb.2.2, ?_⟩
    split at e
    · rename_i hx; cases e; exact Or.inl ⟨hx, rfl, rfl, rfl, rfl⟩
    split at e
    · rename_i hx; cases e; exact Or.inr (Or.inl ⟨hx, rfl, rfl, rfl, rfl⟩)
    split at e
    · rename_i hx
      split at e
      · rename_i ht
        cases e
        refine Or.inr (Or.inr ⟨hx, rfl, rfl, rfl, ht, ?_⟩)
        by_cases h3 : hoT x = 3
        · refine Or.inl ⟨h3, if_pos h3, ?_⟩
          have := hb.2.1
          omega
        · exact Or.inr ⟨h3, if_neg h3⟩
      · cases e
    · cases e
theorem wCl_ch {n t i v : Int} (h : wCh n t i v) : wCl n t i (rdC v) := by
  obtain ⟨cs, k, hx, e, hv⟩ := h
  exact ⟨cs, k, hx, e, Or.inr ⟨v, hv, rfl⟩⟩
theorem wCl_end {n t w d b c : Int} (h : wRe n t n w d b c) : wCl n t n 7 := by
  obtain ⟨cs, s, hx, _⟩ := h
  exact ⟨cs, cs.length, hx, hx.1, Or.inl ⟨rfl, rfl⟩⟩
theorem wCl_inj {n t i k k' : Int} (h : wCl n t i k) (h' : wCl n t i k') : k = k' := by
  obtain ⟨cs, j, hx, rfl, hk⟩ := h
  obtain ⟨cs', j', hx', ej, hk'⟩ := h'
  cases okTx_inj hx hx'
  cases Int.ofNat.inj ej
  rcases hk with ⟨e1, e2⟩ | ⟨v, e1, e2⟩ <;> rcases hk' with ⟨f1, f2⟩ | ⟨u, f1, f2⟩
  · rw [e2, f2]
  · rw [List.getElem?_eq_none (by omega)] at f1; cases f1
  · rw [List.getElem?_eq_none (by omega)] at e1; cases e1
  · rw [e1] at f1; cases f1; rw [e2, f2]
theorem wCl_v {n t i k : Int} (h : wCl n t i k) (hk : k ≠ 7) : ∃ v, wCh n t i v ∧ k = rdC v := by
  obtain ⟨cs, j, hx, e, hk'⟩ := h
  rcases hk' with ⟨_, e2⟩ | ⟨v, e1, e2⟩
  · exact absurd e2 hk
  · exact ⟨v, ⟨cs, j, hx, e, e1⟩, e2⟩
