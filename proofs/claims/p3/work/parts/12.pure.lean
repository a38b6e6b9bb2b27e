/-! ===== runs, pure: one instruction, many, calls; fuel is left open ===== -/
theorem exec_mono_call {scr : Option (List Int32)} {ini : Bool} {o nL : Nat} {tb : List (List (Option XE))} {call call' : Nat → List Value → SH → Option Res} (hc : ∀ mi as σ R, call mi as σ = some R → call' mi as σ = some R) :
    ∀ (n k pc : Nat) (st : List Value) (lv : LV) (σ : SH) (R : Res), exec scr ini o nL tb call n pc st lv σ = some R → exec scr ini o nL tb call' (n + k) pc st lv σ = some R := by
  intro n
  induction n with
  | zero => intro k pc st lv σ R h; cases h
  | succ n ih =>
    intro k pc st lv σ R h
    rw [show n + 1 + k = (n + k) + 1 by omega]
    cases hg : tbGet tb pc with
    | none => simp only [exec, hg] at h; cases h
    | some en =>
      obtain ⟨i, len, g, a, b, w⟩ := en
      simp only [exec, hg] at h ⊢
      split at h
      · cases hs : stepA i a st lv with
        | none => simp only [hs] at h; cases h
        | some q => simp only [hs] at h ⊢; exact ih k _ _ _ _ _ h
      · cases hs : stepB i nL st lv with
        | none => simp only [hs] at h; cases h
        | some q => simp only [hs] at h ⊢; exact ih k _ _ _ _ _ h
      · cases hs : stepC i pc st with
        | none => simp only [hs] at h; cases h
        | some q => simp only [hs] at h ⊢; exact ih k _ _ _ _ _ h
      · cases hs : stepD scr i a b st σ with
        | none => simp only [hs] at h; cases h
        | some q => simp only [hs] at h ⊢; exact ih k _ _ _ _ _ h
      · cases hs : stepE ini o i a b st σ with
        | none => simp only [hs] at h; cases h
        | some q => simp only [hs] at h ⊢; exact ih k _ _ _ _ _ h
      · cases hs : stepF i a st lv σ with
        | none => simp only [hs] at h; cases h
        | some q =>
          obtain ⟨st', σ1, k1, k2⟩ := q
          simp only [hs] at h ⊢
          cases he : exec scr ini o nL tb call n (pc + len) st' lv σ1 with
          | none => simp only [he] at h; cases h
          | some q2 =>
            rw [ih k _ _ _ _ _ he]
            simp only [he] at h
            exact h
      · exact h
      · by_cases hi : isCall i = true
        · rw [if_pos hi] at h ⊢
          cases hs : callIn a b st lv σ with
          | none => simp only [hs] at h; cases h
          | some q =>
            obtain ⟨as, rest⟩ := q
            simp only [hs] at h ⊢
            cases hl : locCall call a as σ with
            | none => simp only [hl] at h; cases h
            | some q1 =>
              have hl' : locCall call' a as σ = some q1 := by
                unfold locCall locC at hl ⊢
                by_cases hI : cutOk σ as (cutI σ as) = true
                · rw [if_pos hI] at hl ⊢
                  cases hr : call a (as.map (rnV (cutI σ as))) (subH σ (cutI σ as)) with
                  | none => simp only [hr] at hl; cases hl
                  | some q3 => rw [hc _ _ _ _ hr]; simp only [hr] at hl; exact hl
                · rw [if_neg hI] at hl; cases hl
              rw [hl']
              obtain ⟨r1, σ1, c1, s1⟩ := q1
              simp only [hl] at h ⊢
              cases he : exec scr ini o nL tb call n (pc + 3) (r1.toList ++ rest) lv σ1 with
              | none => simp only [he] at h; cases h
              | some q2 =>
                rw [ih k _ _ _ _ _ he]
                simp only [he] at h
                exact h
        · rw [if_neg hi] at h; cases h
      · cases h
theorem runM_mono : ∀ (d F k : Nat) (mi : Nat) (as : List Value) (σ : SH) (R : Res), runM F d mi as σ = some R → ∀ e, runM (F + k) (d + e) mi as σ = some R := by
  intro d
  induction d with
  | zero => intro F k mi as σ R h; cases h
  | succ d ih =>
    intro F k mi as σ R h e
    rw [show d + 1 + e = (d + e) + 1 by omega]
    cases hme : meths[mi]? with
    | none => simp only [runM, hme] at h; cases h
    | some me =>
      simp only [runM, hme] at h ⊢
      by_cases hlen : (lg_sl as).length ≤ mMl me ∧ as.length = (if mKd me = 2 then mNa me else mNa me + 1)
      · rw [if_pos hlen] at h ⊢
        cases he : exec none (mKd me == 1) (mOw me) (mMl me) (mTb me) (runM F d) F 0 [] (lv_args 0 as) σ with
        | none => simp only [he] at h; cases h
        | some q =>
          rw [exec_mono_call (fun mi as σ R h => ih F k mi as σ R h e) F k _ _ _ _ _ he]
          simp only [he] at h
          exact h
      · rw [if_neg hlen] at h; cases h
/-- a method's run at depth d, some fuel -/
def Rn (d mi : Nat) (as : List Value) (σ : SH) (R : Res) : Prop := ∃ F, runM F d mi as σ = some R
/-- a body's run from a place on, its calls at depth d; a, b: the cells and slots so far -/
abbrev XS : Type := Nat × List Value × LV × SH × Nat × Nat
def Ex (scr : Option (List Int32)) (ini : Bool) (o nL : Nat) (tb : List (List (Option XE))) (d : Nat) (S : XS) (R : Res) : Prop := ∃ F n kc ks, exec scr ini o nL tb (runM F d) n S.1 S.2.1 S.2.2.1 S.2.2.2.1 = some (R.1, R.2.1, kc, ks) ∧ R.2.2.1 = S.2.2.2.2.1 + kc ∧ R.2.2.2 = S.2.2.2.2.2 + ks
theorem Rn.mono {d d' mi : Nat} {as : List Value} {σ : SH} {R : Res} (h : Rn d mi as σ R) (hd : d ≤ d') : Rn d' mi as σ R := by
  obtain ⟨F, h⟩ := h
  refine ⟨F + 0, ?_⟩
  have h1 := runM_mono d F 0 mi as σ R h (d' - d)
  rw [show d + (d' - d) = d' by omega] at h1
  exact h1
def nxt (scr : Option (List Int32)) (ini : Bool) (o nL : Nat) (tb : List (List (Option XE))) (pc : Nat) (st : List Value) (lv : LV) (σ : SH) (ca cb : Nat) : Option XS := match tbGet tb pc with
  | none => none
  | some (i, len, g, a, b, _) => match g with
    | 0 => (stepA i a st lv).map (fun st' => (pc + len, st', lv, σ, ca, cb))
    | 1 => (stepB i nL st lv).map (fun q => (pc + len, q.1, q.2, σ, ca, cb))
    | 2 => (stepC i pc st).map (fun q => (q.1, q.2, lv, σ, ca, cb))
    | 3 => (stepD scr i a b st σ).map (fun st' => (pc + len, st', lv, σ, ca, cb))
    | 4 => (stepE ini o i a b st σ).map (fun q => (pc + len, q.1, lv, q.2, ca, cb))
    | 5 => (stepF i a st lv σ).map (fun q => (pc + len, q.1, lv, q.2.1, ca + q.2.2.1, cb + q.2.2.2))
    | _ => none
theorem Ex.step {scr : Option (List Int32)} {ini : Bool} {o nL : Nat} {tb : List (List (Option XE))} {d pc ca cb : Nat} {st : List Value} {lv : LV} {σ : SH} {S' : XS} {R : Res} (h : nxt scr ini o nL tb pc st lv σ ca cb = some S') (hk : Ex scr ini o nL tb d S' R) : Ex scr ini o nL tb d (pc, st, lv, σ, ca, cb) R := by
  obtain ⟨F, n, kc, ks, he, e1, e2⟩ := hk
  unfold nxt at h
  cases hg : tbGet tb pc with
  | none => simp only [hg] at h; cases h
  | some en =>
    obtain ⟨i, len, g, a, b, w⟩ := en
    simp only [hg] at h
    split at h
    · cases hs : stepA i a st lv with
      | none => simp only [hs, Option.map_none] at h; cases h
      | some q => simp only [hs, Option.map_some, Option.some.injEq] at h; subst h; exact ⟨F, n + 1, kc, ks, by simp only [exec, hg, hs]; exact he, e1, e2⟩
    · cases hs : stepB i nL st lv with
      | none => simp only [hs, Option.map_none] at h; cases h
      | some q => simp only [hs, Option.map_some, Option.some.injEq] at h; subst h; exact ⟨F, n + 1, kc, ks, by simp only [exec, hg, hs]; exact he, e1, e2⟩
    · cases hs : stepC i pc st with
      | none => simp only [hs, Option.map_none] at h; cases h
      | some q => simp only [hs, Option.map_some, Option.some.injEq] at h; subst h; exact ⟨F, n + 1, kc, ks, by simp only [exec, hg, hs]; exact he, e1, e2⟩
    · cases hs : stepD scr i a b st σ with
      | none => simp only [hs, Option.map_none] at h; cases h
      | some q => simp only [hs, Option.map_some, Option.some.injEq] at h; subst h; exact ⟨F, n + 1, kc, ks, by simp only [exec, hg, hs]; exact he, e1, e2⟩
    · cases hs : stepE ini o i a b st σ with
      | none => simp only [hs, Option.map_none] at h; cases h
      | some q => simp only [hs, Option.map_some, Option.some.injEq] at h; subst h; exact ⟨F, n + 1, kc, ks, by simp only [exec, hg, hs]; exact he, e1, e2⟩
    · cases hs : stepF i a st lv σ with
      | none => simp only [hs, Option.map_none] at h; cases h
      | some q =>
        obtain ⟨st', σ', k1, k2⟩ := q
        simp only [hs, Option.map_some, Option.some.injEq] at h
        subst h
        refine ⟨F, n + 1, k1 + kc, k2 + ks, by simp only [exec, hg, hs]; dsimp only at he; rw [he], ?_, ?_⟩
        · rw [e1]; exact Nat.add_assoc _ _ _
        · rw [e2]; exact Nat.add_assoc _ _ _
    · cases h
def nxtK (scr : Option (List Int32)) (ini : Bool) (o nL : Nat) (tb : List (List (Option XE))) : Nat → Nat → List Value → LV → SH → Nat → Nat → Option XS
  | 0, pc, st, lv, σ, ca, cb => some (pc, st, lv, σ, ca, cb)
  | k + 1, pc, st, lv, σ, ca, cb => match nxt scr ini o nL tb pc st lv σ ca cb with
    | some (pc', st', lv', σ', ca', cb') => nxtK scr ini o nL tb k pc' st' lv' σ' ca' cb'
    | none => none
theorem Ex.steps {scr : Option (List Int32)} {ini : Bool} {o nL : Nat} {tb : List (List (Option XE))} {d : Nat} {R : Res} : ∀ (k : Nat) {pc ca cb : Nat} {st : List Value} {lv : LV} {σ : SH} {S' : XS}, nxtK scr ini o nL tb k pc st lv σ ca cb = some S' → Ex scr ini o nL tb d S' R → Ex scr ini o nL tb d (pc, st, lv, σ, ca, cb) R := by
  intro k
  induction k with
  | zero => intro pc ca cb st lv σ S' h hk; cases h; exact hk
  | succ k ih =>
    intro pc ca cb st lv σ S' h hk
    unfold nxtK at h
    cases hn : nxt scr ini o nL tb pc st lv σ ca cb with
    | none => simp only [hn] at h; cases h
    | some S1 =>
      obtain ⟨pc', st', lv', σ', ca', cb'⟩ := S1
      simp only [hn] at h
      exact Ex.step hn (ih h hk)
/-- the end -/
theorem Ex.ret {scr : Option (List Int32)} {ini : Bool} {o nL : Nat} {tb : List (List (Option XE))} {d pc len a b w ca cb : Nat} {i : Instr} {st : List Value} {lv : LV} {σ : SH} {r : Option Value} (hg : tbGet tb pc = some (i, len, 6, a, b, w)) (h : stepR i st = some r) : Ex scr ini o nL tb d (pc, st, lv, σ, ca, cb) (r, σ, ca, cb) :=
  ⟨0, 1, 0, 0, by simp only [exec, hg, h], rfl, rfl⟩
/-- a call -/
theorem Ex.call {scr : Option (List Int32)} {ini : Bool} {o nL : Nat} {tb : List (List (Option XE))} {d pc len a b w ca cb c1 s1 : Nat} {i : Instr} {st as rest : List Value} {lv : LV} {σ h1 : SH} {I : List Nat} {r : Option Value} {R : Res} (hg : tbGet tb pc = some (i, len, 7, a, b, w)) (hi : isCall i = true) (hc : callIn a b st lv σ = some (as, rest)) (hI : cutI σ as = I) (hok : cutOk σ as I = true)
    (hr : Rn d a (as.map (rnV I)) (subH σ I) (r, h1, c1, s1)) (hw : I.length ≤ h1.length ∧ (h1.length = I.length ∨ (σ.all (okC σ.length) = true ∧ σ.length + h1.length < sIdx)) ∧ h1.all (okC h1.length) = true)
    (hk : Ex scr ini o nL tb d (pc + 3, r.toList ++ rest, lv, paste σ I h1, ca + c1, cb + s1) R) : Ex scr ini o nL tb d (pc, st, lv, σ, ca, cb) R := by
  subst hI
  obtain ⟨F1, hr⟩ := hr
  obtain ⟨F2, n, kc, ks, he, e1, e2⟩ := hk
  have hr' : runM (F1 + F2) d a (as.map (rnV (cutI σ as))) (subH σ (cutI σ as)) = some (r, h1, c1, s1) := runM_mono d F1 F2 _ _ _ _ hr 0
  have he' := exec_mono_call (call' := runM (F1 + F2) d) (fun mi as σ R h => by
    have := runM_mono d F2 F1 mi as σ R h 0
    rw [Nat.add_comm F2 F1] at this
    exact this) n 0 _ _ _ _ _ he
  have hl : locCall (runM (F1 + F2) d) a as σ = some (r, paste σ (cutI σ as) h1, c1, s1) := by
    unfold locCall locC
    rw [if_pos hok]
    simp only [hr']
    rw [if_pos hw]
  refine ⟨F1 + F2, n + 1, c1 + kc, s1 + ks, ?_, ?_, ?_⟩
  · simp only [exec, hg]
    rw [if_pos hi]
    simp only [hc, hl]
    dsimp only at he'
    rw [Nat.add_zero] at he'
    rw [he']
  · rw [e1]; exact Nat.add_assoc _ _ _
  · rw [e2]; exact Nat.add_assoc _ _ _
/-- a method out of its body -/
theorem Rn.of {d mi : Nat} {as : List Value} {σ : SH} {R : Res} {me : ME} (hme : meths[mi]? = some me) (hlen : (lg_sl as).length ≤ mMl me ∧ as.length = (if mKd me = 2 then mNa me else mNa me + 1)) (hr : retOk (mRt me) R.1 = true) (h : Ex none (mKd me == 1) (mOw me) (mMl me) (mTb me) d (0, [], lv_args 0 as, σ, 0, 0) R) : Rn (d + 1) mi as σ R := by
  obtain ⟨F, n, kc, ks, he, e1, e2⟩ := h
  obtain ⟨r, σ', c1, s1⟩ := R
  dsimp only at he e1 e2 hr
  rw [Nat.zero_add] at e1 e2
  subst e1
  subst e2
  refine ⟨F + n, ?_⟩
  have he' := exec_mono_call (call' := runM (F + n) d) (fun mi as σ R h => runM_mono d F n mi as σ R h 0) n F _ _ _ _ _ he
  simp only [runM, hme]
  rw [if_pos hlen, Nat.add_comm F n] at *
  simp only [he']
  rw [if_pos hr]
