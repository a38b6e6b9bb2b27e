/-! ===== what an instruction does to abstract values: stack and locals ===== -/
abbrev RV : Type := AV ⊕ (Bool × OR)
noncomputable def rvOk (ρ : Nat → Int) (v : Value) (r : RV) : Prop := match r with
  | .inl a => vrel ρ v a
  | .inr (false, o) => ∃ x : Int32, v = .int x ∧ orOk ρ x.toInt o
  | .inr (true, o) => ∃ x : Int64, v = .long x ∧ orOk ρ x.toInt o
abbrev SV : Type := List AV × RV
noncomputable def kI (lo hi n : Int) (st : List AV) : Option SV := bif leI lo n then (bif leI n hi then some (st, .inl (avI (kL n))) else none) else none
noncomputable def b2 (f : Ln → Ln → OR) (st : List AV) : Option SV := match st with
  | .inl (false, y) :: .inl (false, x) :: r => some (r, .inr (false, f x y))
  | _ => none
noncomputable def b2o (f : Ln → Ln → Option OR) (st : List AV) : Option SV := match st with
  | .inl (false, y) :: .inl (false, x) :: r => (match f x y with
    | some o => some (r, .inr (false, o))
    | none => none)
  | _ => none
noncomputable def l2 (f : Ln → Ln → OR) (st : List AV) : Option SV := match st with
  | .inl (true, y) :: .inl (true, x) :: r => some (r, .inr (true, f x y))
  | _ => none
noncomputable def l2o (f : Ln → Ln → Option OR) (st : List AV) : Option SV := match st with
  | .inl (true, y) :: .inl (true, x) :: r => (match f x y with
    | some o => some (r, .inr (true, o))
    | none => none)
  | _ => none
noncomputable def u1 (f : Ln → OR) (st : List AV) : Option SV := match st with
  | .inl (false, x) :: r => some (r, .inr (false, f x))
  | _ => none
noncomputable def lnB (a b : Bool) : Bool := match a, b with
  | true, true => true
  | false, false => true
  | _, _ => false
noncomputable def ldN (lg : Bool) (lv : AL) (k : Nat) (st : List AV) : Option SV := match alGet k lv with
  | some (.inl (b, e)) => bif lnB b lg then some (st, .inl (.inl (b, e))) else none
  | _ => none
noncomputable def ldR (lv : AL) (k : Nat) (st : List AV) : Option SV := match alGet k lv with
  | some (.inr (.inl (some i))) => some (st, .inl (.inr (.inl (some i))))
  | _ => none
noncomputable def g0 (i : Instr) (a : Nat) (tab : Tb) (fs : List Ln) (lv : AL) (st : List AV) : Option SV := match i with
  | .iconst n => kI lo32 hi32 n st
  | .bipush n => kI (.negSucc 127) (.ofNat 127) n st
  | .sipush n => kI (.negSucc 32767) (.ofNat 32767) n st
  | .lconst n => some (st, .inl (avJ (kL (Int.ofNat (n : Nat)))))
  | .ldc _ => some (st, .inl (avI (kL (cI a).toInt)))
  | .ldc_w _ => some (st, .inl (avI (kL (cI a).toInt)))
  | .ldc2_w _ => some (st, .inl (avJ (kL (cL a).toInt)))
  | .iload k => ldN false lv k st
  | .iload_n k => ldN false lv (k : Nat) st
  | .lload k => ldN true lv k st
  | .lload_n k => ldN true lv (k : Nat) st
  | .aload k => ldR lv k st
  | .aload_n k => ldR lv (k : Nat) st
  | .iadd => b2 (aAdd tab) st
  | .isub => b2 (aSub tab) st
  | .imul => b2 (aMul tab) st
  | .iand => b2 (aAnd tab) st
  | .ior => b2 (aOr tab) st
  | .ixor => b2 (aXor tab) st
  | .ishl => b2 (aShl tab) st
  | .ishr => b2 (aShr tab) st
  | .iushr => b2 (aUshr tab) st
  | .idiv => b2o (aDiv tab fs) st
  | .irem => b2o (aRem tab fs) st
  | .ineg => u1 (aNeg tab) st
  | .i2c => u1 (aI2c tab) st
  | .ladd => l2 (lAdd tab) st
  | .lsub => l2 (lSub tab) st
  | .lmul => l2 (lMul tab) st
  | .ldiv => l2o (lDiv tab fs) st
  | .lneg => match st with
    | .inl (true, x) :: r => some (r, .inr (true, lNeg tab x))
    | _ => none
  | .i2l => match st with
    | .inl (false, x) :: r => some (r, .inl (.inl (true, x)))
    | _ => none
  | .l2i => match st with
    | .inl (true, x) :: r => some (r, .inr (false, aL2i tab x))
    | _ => none
  | .lcmp => match st with
    | .inl (true, y) :: .inl (true, x) :: r => some (r, .inl (.inr (.inr (x, y))))
    | _ => none
  | .dup => match st with
    | v :: r => bif Nat.beq (catA v) 1 then some (v :: r, .inl v) else none
    | _ => none
  | .dup2 => match st with
    | v :: w :: r => bif Nat.beq (catA v) 1 then (bif Nat.beq (catA w) 1 then some (w :: v :: w :: r, .inl v) else none) else none
    | _ => none
  | _ => none
section STEP
variable {ρ : Nat → Int} {tab : Tb} {fs : List Ln} {cst : List Value} {st rest : List AV} {clv : LV} {lv : AL} {r : RV}
theorem vI_inv {v : Value} {e : Ln} (h : vrel ρ v (.inl (false, e))) : ∃ x : Int32, v = .int x ∧ x.toInt = ev ρ e := h
theorem vJ_inv {v : Value} {e : Ln} (h : vrel ρ v (.inl (true, e))) : ∃ x : Int64, v = .long x ∧ x.toInt = ev ρ e := h
theorem lnB_eq {a b : Bool} (h : lnB a b = true) : a = b := by
  revert h
  cases a <;> cases b <;> intro h <;> first | rfl | cases h
theorem kI_ok {lo hi n : Int} (h : kI lo hi n st = some (rest, r)) : lo ≤ n ∧ n ≤ hi ∧ rest = st ∧ r = .inl (avI (kL n)) := by
  unfold kI at h
  cases h1 : leI lo n with
  | false => rw [h1] at h; cases h
  | true =>
    rw [h1] at h
    cases h2 : leI n hi with
    | false => rw [h2] at h; cases h
    | true => rw [h2] at h; cases h; exact ⟨leI_le h1, leI_le h2, rfl, rfl⟩
theorem b2_ok {F : Int32 → Int32 → Int32} {f : Ln → Ln → OR} (hs : rel2 (vrel ρ) cst st) (hf : ∀ {a b : Ln} {x y : Int32}, x.toInt = ev ρ a → y.toInt = ev ρ b → orOk ρ (F x y).toInt (f a b)) (h : b2 f st = some (rest, r)) : ∃ v cr, bi F cst = some (v :: cr) ∧ rel2 (vrel ρ) cr rest ∧ rvOk ρ v r := by
  unfold b2 at h
  split at h
  · rename_i y x r'
    cases h
    obtain ⟨v1, c1, e1, h1, hs1⟩ := rel2_cons hs
    obtain ⟨v2, c2, e2, h2, hs2⟩ := rel2_cons hs1
    obtain ⟨y', e3, h3⟩ := vI_inv h1
    obtain ⟨x', e4, h4⟩ := vI_inv h2
    subst e1; subst e2; subst e3; subst e4
    exact ⟨_, _, rfl, hs2, _, rfl, hf h4 h3⟩
  · cases h
theorem b2o_ok {F : Int32 → Int32 → Int32} {f : Ln → Ln → Option OR} (hs : rel2 (vrel ρ) cst st) (hf : ∀ {a b : Ln} {x y : Int32} {o : OR}, x.toInt = ev ρ a → y.toInt = ev ρ b → f a b = some o → y ≠ 0 ∧ orOk ρ (F x y).toInt o) (h : b2o f st = some (rest, r)) : ∃ v cr, biN F cst = some (v :: cr) ∧ rel2 (vrel ρ) cr rest ∧ rvOk ρ v r := by
  unfold b2o at h
  split at h
  · rename_i y x r'
    cases ho : f x y with
    | none => rw [ho] at h; cases h
    | some o =>
      rw [ho] at h
      cases h
      obtain ⟨v1, c1, e1, h1, hs1⟩ := rel2_cons hs
      obtain ⟨v2, c2, e2, h2, hs2⟩ := rel2_cons hs1
      obtain ⟨y', e3, h3⟩ := vI_inv h1
      obtain ⟨x', e4, h4⟩ := vI_inv h2
      subst e1; subst e2; subst e3; subst e4
      obtain ⟨n0, hor⟩ := hf h4 h3 ho
      refine ⟨_, _, ?_, hs2, _, rfl, hor⟩
      show (if y' = 0 then none else some (.int (F x' y') :: c2)) = _
      rw [if_neg n0]
  · cases h
theorem l2_ok {F : Int64 → Int64 → Int64} {f : Ln → Ln → OR} (hs : rel2 (vrel ρ) cst st) (hf : ∀ {a b : Ln} {x y : Int64}, x.toInt = ev ρ a → y.toInt = ev ρ b → orOk ρ (F x y).toInt (f a b)) (h : l2 f st = some (rest, r)) : ∃ v cr, bl F cst = some (v :: cr) ∧ rel2 (vrel ρ) cr rest ∧ rvOk ρ v r := by
  unfold l2 at h
  split at h
  · rename_i y x r'
    cases h
    obtain ⟨v1, c1, e1, h1, hs1⟩ := rel2_cons hs
    obtain ⟨v2, c2, e2, h2, hs2⟩ := rel2_cons hs1
    obtain ⟨y', e3, h3⟩ := vJ_inv h1
    obtain ⟨x', e4, h4⟩ := vJ_inv h2
    subst e1; subst e2; subst e3; subst e4
    exact ⟨_, _, rfl, hs2, _, rfl, hf h4 h3⟩
  · cases h
theorem l2o_ok {F : Int64 → Int64 → Int64} {f : Ln → Ln → Option OR} (hs : rel2 (vrel ρ) cst st) (hf : ∀ {a b : Ln} {x y : Int64} {o : OR}, x.toInt = ev ρ a → y.toInt = ev ρ b → f a b = some o → y ≠ 0 ∧ orOk ρ (F x y).toInt o) (h : l2o f st = some (rest, r)) : ∃ v cr, blN F cst = some (v :: cr) ∧ rel2 (vrel ρ) cr rest ∧ rvOk ρ v r := by
  unfold l2o at h
  split at h
  · rename_i y x r'
    cases ho : f x y with
    | none => rw [ho] at h; cases h
    | some o =>
      rw [ho] at h
      cases h
      obtain ⟨v1, c1, e1, h1, hs1⟩ := rel2_cons hs
      obtain ⟨v2, c2, e2, h2, hs2⟩ := rel2_cons hs1
      obtain ⟨y', e3, h3⟩ := vJ_inv h1
      obtain ⟨x', e4, h4⟩ := vJ_inv h2
      subst e1; subst e2; subst e3; subst e4
      obtain ⟨n0, hor⟩ := hf h4 h3 ho
      refine ⟨_, _, ?_, hs2, _, rfl, hor⟩
      show (if y' = 0 then none else some (.long (F x' y') :: c2)) = _
      rw [if_neg n0]
  · cases h
theorem u1_ok {F : Int32 → Int32} {f : Ln → OR} (hs : rel2 (vrel ρ) cst st) (hf : ∀ {a : Ln} {x : Int32}, x.toInt = ev ρ a → orOk ρ (F x).toInt (f a)) (h : u1 f st = some (rest, r)) : ∃ v cr, ui F cst = some (v :: cr) ∧ rel2 (vrel ρ) cr rest ∧ rvOk ρ v r := by
  unfold u1 at h
  split at h
  · rename_i x r'
    cases h
    obtain ⟨v1, c1, e1, h1, hs1⟩ := rel2_cons hs
    obtain ⟨x', e4, h4⟩ := vI_inv h1
    subst e1; subst e4
    exact ⟨_, _, rfl, hs1, _, rfl, hf h4⟩
  · cases h
theorem ldI_ok {k : Nat} (hs : rel2 (vrel ρ) cst st) (hl : lvR ρ clv lv) (h : ldN false lv k st = some (rest, r)) : ∃ v cr, ldI clv k cst = some (v :: cr) ∧ rel2 (vrel ρ) cr rest ∧ rvOk ρ v r := by
  unfold ldN at h
  split at h
  · rename_i b e hg
    cases hb : lnB b false with
    | false => rw [hb] at h; cases h
    | true =>
      rw [hb] at h
      have := lnB_eq hb
      subst this
      cases h
      obtain ⟨v, hv, hr⟩ := lvR_get hl hg
      obtain ⟨x, e1, h1⟩ := vI_inv hr
      subst e1
      refine ⟨.int x, cst, ?_, hs, hr⟩
      unfold ldI
      rw [hv]
  · cases h
theorem ldL_ok {k : Nat} (hs : rel2 (vrel ρ) cst st) (hl : lvR ρ clv lv) (h : ldN true lv k st = some (rest, r)) : ∃ v cr, ldL clv k cst = some (v :: cr) ∧ rel2 (vrel ρ) cr rest ∧ rvOk ρ v r := by
  unfold ldN at h
  split at h
  · rename_i b e hg
    cases hb : lnB b true with
    | false => rw [hb] at h; cases h
    | true =>
      rw [hb] at h
      have := lnB_eq hb
      subst this
      cases h
      obtain ⟨v, hv, hr⟩ := lvR_get hl hg
      obtain ⟨x, e1, h1⟩ := vJ_inv hr
      subst e1
      refine ⟨.long x, cst, ?_, hs, hr⟩
      unfold ldL
      rw [hv]
  · cases h
theorem ldA_ok {k : Nat} (hs : rel2 (vrel ρ) cst st) (hl : lvR ρ clv lv) (h : ldR lv k st = some (rest, r)) : ∃ v cr, ldA clv k cst = some (v :: cr) ∧ rel2 (vrel ρ) cr rest ∧ rvOk ρ v r := by
  unfold ldR at h
  split at h
  · rename_i i hg
    cases h
    obtain ⟨v, hv, hr⟩ := lvR_get hl hg
    have e1 : v = .ref i := hr
    subst e1
    refine ⟨.ref i, cst, ?_, hs, hr⟩
    unfold ldA
    rw [hv]
  · cases h
theorem k32 {n : Int} (h1 : lo32 ≤ n) (h2 : n ≤ hi32) : (Int32.ofInt n).toInt = n := by
  have e1 : lo32 = -2147483648 := rfl
  have e2 : hi32 = 2147483647 := rfl
  exact Int32.toInt_ofInt_of_le (by omega) (by omega)
theorem lcst : ∀ n : Fin 2, (Int64.ofNat (n : Nat)).toInt = Int.ofNat (n : Nat) := by decide
set_option maxHeartbeats 4000000 in
theorem g0_ok {i : Instr} {a : Nat} (ht : tOk ρ tab) (hf : fOk ρ fs) (hs : rel2 (vrel ρ) cst st) (hl : lvR ρ clv lv) (h : g0 i a tab fs lv st = some (rest, r)) : ∃ v cr, stepA i a cst clv = some (v :: cr) ∧ rel2 (vrel ρ) cr rest ∧ rvOk ρ v r := by
  have no : ∀ {P : Prop}, (none : Option SV) = some (rest, r) → P := fun h => by cases h
  cases i with
  | iconst n =>
    obtain ⟨h1, h2, rfl, rfl⟩ := kI_ok h
    exact ⟨_, _, rfl, hs, _, rfl, (k32 h1 h2).trans (ev_k ρ n).symm⟩
  | bipush n =>
    obtain ⟨h1, h2, rfl, rfl⟩ := kI_ok h
    refine ⟨_, _, rfl, hs, _, rfl, ?_⟩
    rw [ev_k, Int8.toInt_toInt32]
    have e1 : Int.negSucc 127 = -128 := rfl
    have e2 : Int.ofNat 127 = 127 := rfl
    exact Int8.toInt_ofInt_of_le (by omega) (by omega)
  | sipush n =>
    obtain ⟨h1, h2, rfl, rfl⟩ := kI_ok h
    refine ⟨_, _, rfl, hs, _, rfl, ?_⟩
    rw [ev_k, Int16.toInt_toInt32]
    have e1 : Int.negSucc 32767 = -32768 := rfl
    have e2 : Int.ofNat 32767 = 32767 := rfl
    exact Int16.toInt_ofInt_of_le (by omega) (by omega)
  | lconst n =>
    cases h
    exact ⟨_, _, rfl, hs, _, rfl, (lcst n).trans (ev_k ρ _).symm⟩
  | ldc _ =>
    cases h
    exact ⟨_, _, rfl, hs, _, rfl, (ev_k ρ _).symm⟩
  | ldc_w _ =>
    cases h
    exact ⟨_, _, rfl, hs, _, rfl, (ev_k ρ _).symm⟩
  | ldc2_w _ =>
    cases h
    exact ⟨_, _, rfl, hs, _, rfl, (ev_k ρ _).symm⟩
  | iload k => exact ldI_ok hs hl h
  | iload_n k => exact ldI_ok hs hl h
  | lload k => exact ldL_ok hs hl h
  | lload_n k => exact ldL_ok hs hl h
  | aload k => exact ldA_ok hs hl h
  | aload_n k => exact ldA_ok hs hl h
  | iadd => exact b2_ok hs (aAdd_ok ht) h
  | isub => exact b2_ok hs (aSub_ok ht) h
  | imul => exact b2_ok hs (aMul_ok ht) h
  | iand => exact b2_ok hs (aAnd_ok ht) h
  | ior => exact b2_ok hs (aOr_ok ht) h
  | ixor => exact b2_ok hs (aXor_ok ht) h
  | ishl => exact b2_ok hs (aShl_ok ht) h
  | ishr => exact b2_ok hs (aShr_ok ht) h
  | iushr => exact b2_ok hs (aUshr_ok ht) h
  | idiv => exact b2o_ok hs (fun ha hb hr => aDiv_ok ht hf ha hb hr) h
  | irem => exact b2o_ok hs (fun ha hb hr => aRem_ok ht hf ha hb hr) h
  | ineg => exact u1_ok hs (aNeg_ok ht) h
  | i2c => exact u1_ok hs (aI2c_ok ht) h
  | ladd => exact l2_ok hs (lAdd_ok ht) h
  | lsub => exact l2_ok hs (lSub_ok ht) h
  | lmul => exact l2_ok hs (lMul_ok ht) h
  | ldiv => exact l2o_ok hs (fun ha hb hr => lDiv_ok ht hf ha hb hr) h
  | lneg =>
    simp only [g0] at h
    split at h
    · cases h
      obtain ⟨v1, c1, e1, h1, hs1⟩ := rel2_cons hs
      obtain ⟨x', e4, h4⟩ := vJ_inv h1
      subst e1; subst e4
      exact ⟨_, _, rfl, hs1, _, rfl, lNeg_ok ht h4⟩
    · cases h
  | i2l =>
    simp only [g0] at h
    split at h
    · cases h
      obtain ⟨v1, c1, e1, h1, hs1⟩ := rel2_cons hs
      obtain ⟨x', e4, h4⟩ := vI_inv h1
      subst e1; subst e4
      exact ⟨_, _, rfl, hs1, _, rfl, (i2l_toInt x').trans h4⟩
    · cases h
  | l2i =>
    simp only [g0] at h
    split at h
    · cases h
      obtain ⟨v1, c1, e1, h1, hs1⟩ := rel2_cons hs
      obtain ⟨x', e4, h4⟩ := vJ_inv h1
      subst e1; subst e4
      exact ⟨_, _, rfl, hs1, _, rfl, aL2i_ok ht h4⟩
    · cases h
  | lcmp =>
    simp only [g0] at h
    split at h
    · cases h
      obtain ⟨v1, c1, e1, h1, hs1⟩ := rel2_cons hs
      obtain ⟨v2, c2, e2, h2, hs2⟩ := rel2_cons hs1
      obtain ⟨y', e3, h3⟩ := vJ_inv h1
      obtain ⟨x', e4, h4⟩ := vJ_inv h2
      subst e1; subst e2; subst e3; subst e4
      refine ⟨_, _, rfl, hs2, ?_⟩
      show Value.int (lg_cmp x' y') = .int (cmpZ _ _)
      rw [← h3, ← h4]
      unfold lg_cmp cmpZ
      simp only [gt_iff_lt, Int64.lt_iff_toInt_lt, ← Int64.toInt_inj]
    · cases h
  | dup =>
    simp only [g0] at h
    split at h
    · rename_i v r'
      cases hc : Nat.beq (catA v) 1 with
      | false => rw [hc] at h; cases h
      | true =>
        rw [hc] at h
        cases h
        obtain ⟨v1, c1, e1, h1, hs1⟩ := rel2_cons hs
        subst e1
        refine ⟨v1, v1 :: c1, ?_, ⟨h1, hs1⟩, h1⟩
        show (if v1.category = 1 then some (v1 :: v1 :: c1) else none) = _
        rw [if_pos (by rw [catA_ok h1]; exact Nat.eq_of_beq_eq_true hc)]
    · cases h
  | dup2 =>
    simp only [g0] at h
    split at h
    · rename_i v w r'
      cases hc : Nat.beq (catA v) 1 with
      | false => rw [hc] at h; cases h
      | true =>
        rw [hc] at h
        cases hc2 : Nat.beq (catA w) 1 with
        | false => rw [hc2] at h; cases h
        | true =>
          rw [hc2] at h
          cases h
          obtain ⟨v1, c1, e1, h1, hs1⟩ := rel2_cons hs
          obtain ⟨v2, c2, e2, h2, hs2⟩ := rel2_cons hs1
          subst e1; subst e2
          refine ⟨v1, v2 :: v1 :: v2 :: c2, ?_, ⟨h2, h1, h2, hs2⟩, h1⟩
          show (if v1.category = 1 ∧ v2.category = 1 then some (v1 :: v2 :: v1 :: v2 :: c2) else none) = _
          rw [if_pos ⟨by rw [catA_ok h1]; exact Nat.eq_of_beq_eq_true hc, by rw [catA_ok h2]; exact Nat.eq_of_beq_eq_true hc2⟩]
    · cases h
  | _ => exact no h
-- into locals
noncomputable def g1 (i : Instr) (nL N : Nat) (st : List AV) (lv : AL) : Option (List AV × AL) := match i with
  | .istore k => s1 nL k st lv
  | .istore_n k => s1 nL (k : Nat) st lv
  | .lstore k => s2 nL k st lv
  | .lstore_n k => s2 nL (k : Nat) st lv
  | .astore k => s3 nL N k st lv
  | .astore_n k => s3 nL N (k : Nat) st lv
  | _ => none
where
  s1 (nL k : Nat) (st : List AV) (lv : AL) : Option (List AV × AL) := match st with
    | .inl (false, e) :: r => bif Nat.blt k nL then some (r, (k, .inl (false, e)) :: alDel false k lv) else none
    | _ => none
  s2 (nL k : Nat) (st : List AV) (lv : AL) : Option (List AV × AL) := match st with
    | .inl (true, e) :: r => bif Nat.blt (Nat.succ k) nL then some (r, (k, .inl (true, e)) :: alDel true k lv) else none
    | _ => none
  s3 (nL N k : Nat) (st : List AV) (lv : AL) : Option (List AV × AL) := match st with
    | .inr (.inl (some j)) :: r => bif Nat.blt k nL then (bif okVA N (.inr (.inl (some j))) then some (r, (k, .inr (.inl (some j))) :: alDel false k lv) else none) else none
    | _ => none
theorem s1_ok {nL k N : Nat} {lv' : AL} (hs : rel2 (vrel ρ) cst st) (hl : lvR ρ clv lv) (hok : lvOk N clv) (h : g1.s1 nL k st lv = some (rest, lv')) : ∃ cr clv', stI nL clv k cst = some (cr, clv') ∧ rel2 (vrel ρ) cr rest ∧ lvR ρ clv' lv' ∧ lvOk N clv' := by
  unfold g1.s1 at h
  split at h
  · rename_i e r'
    cases hk : Nat.blt k nL with
    | false => rw [hk] at h; cases h
    | true =>
      rw [hk] at h
      cases h
      obtain ⟨v1, c1, e1, h1, hs1⟩ := rel2_cons hs
      obtain ⟨x', e4, h4⟩ := vI_inv h1
      subst e1; subst e4
      refine ⟨c1, lvSet1 clv k (.int x'), ?_, hs1, lvR_set1 hl h1, lvOk_set1 hok rfl⟩
      show (if k < nL then some (c1, lvSet1 clv k (.int x')) else none) = _
      rw [if_pos (blt_iff.mp hk)]
  · cases h
theorem s2_ok {nL k N : Nat} {lv' : AL} (hs : rel2 (vrel ρ) cst st) (hl : lvR ρ clv lv) (hok : lvOk N clv) (h : g1.s2 nL k st lv = some (rest, lv')) : ∃ cr clv', stL nL clv k cst = some (cr, clv') ∧ rel2 (vrel ρ) cr rest ∧ lvR ρ clv' lv' ∧ lvOk N clv' := by
  unfold g1.s2 at h
  split at h
  · rename_i e r'
    cases hk : Nat.blt (Nat.succ k) nL with
    | false => rw [hk] at h; cases h
    | true =>
      rw [hk] at h
      cases h
      obtain ⟨v1, c1, e1, h1, hs1⟩ := rel2_cons hs
      obtain ⟨x', e4, h4⟩ := vJ_inv h1
      subst e1; subst e4
      refine ⟨c1, lvSet2 clv k (.long x'), ?_, hs1, lvR_set2 hl h1, lvOk_set2 hok rfl⟩
      show (if k + 1 < nL then some (c1, lvSet2 clv k (.long x')) else none) = _
      rw [if_pos (blt_iff.mp hk)]
  · cases h
theorem s3_ok {nL k N : Nat} {lv' : AL} (hs : rel2 (vrel ρ) cst st) (hl : lvR ρ clv lv) (hok : lvOk N clv) (h : g1.s3 nL N k st lv = some (rest, lv')) : ∃ cr clv', stA nL clv k cst = some (cr, clv') ∧ rel2 (vrel ρ) cr rest ∧ lvR ρ clv' lv' ∧ lvOk N clv' := by
  unfold g1.s3 at h
  split at h
  · rename_i j r'
    cases hk : Nat.blt k nL with
    | false => rw [hk] at h; cases h
    | true =>
      rw [hk] at h
      cases hj : okVA N (.inr (.inl (some j))) with
      | false => rw [hj] at h; cases h
      | true =>
        rw [hj] at h
        cases h
        obtain ⟨v1, c1, e1, h1, hs1⟩ := rel2_cons hs
        have e4 : v1 = .ref j := h1
        subst e1; subst e4
        refine ⟨c1, lvSet1 clv k (.ref j), ?_, hs1, lvR_set1 hl h1, lvOk_set1 hok (okVA_ok h1 hj)⟩
        show (if k < nL then some (c1, lvSet1 clv k (.ref j)) else none) = _
        rw [if_pos (blt_iff.mp hk)]
  · cases h
theorem g1_ok {i : Instr} {nL N : Nat} {lv' : AL} (hs : rel2 (vrel ρ) cst st) (hl : lvR ρ clv lv) (hok : lvOk N clv) (h : g1 i nL N st lv = some (rest, lv')) : ∃ cr clv', stepB i nL cst clv = some (cr, clv') ∧ rel2 (vrel ρ) cr rest ∧ lvR ρ clv' lv' ∧ lvOk N clv' := by
  have no : ∀ {P : Prop}, (none : Option (List AV × AL)) = some (rest, lv') → P := fun h => by cases h
  cases i with
  | istore k => exact s1_ok hs hl hok h
  | istore_n k => exact s1_ok hs hl hok h
  | lstore k => exact s2_ok hs hl hok h
  | lstore_n k => exact s2_ok hs hl hok h
  | astore k => exact s3_ok hs hl hok h
  | astore_n k => exact s3_ok hs hl hok h
  | _ => exact no h
end STEP
