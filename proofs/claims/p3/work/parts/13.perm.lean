/-! ===== the order of the cells doesn't matter: the machine's run with its heap rearranged ===== -/
def mV (f : Nat → Nat) (v : Value) : Value := match v with
  | .ref i => .ref (f i)
  | v => v
def mC (f : Nat → Nat) (c : SC) : SC := match c with
  | .inl q => .inl (q.1, q.2.map (mV f))
  | .inr (k, .inr (.inr l)) => .inr (k, .inr (.inr (l.map (Option.map f))))
  | c => c
def mL (f : Nat → Nat) (lv : LV) : LV := lv.map (fun q => (q.1, mV f q.2))
/-- f: a rearrangement of the first n places; all others stay -/
def Pm (n : Nat) (f g : Nat → Nat) : Prop := (∀ i, f (g i) = i) ∧ (∀ i, g (f i) = i) ∧ (∀ i, n ≤ i → f i = i) ∧ (∀ i, i < n → f i < n) ∧ n ≤ sIdx
section PERM
variable {n : Nat} {f g : Nat → Nat}
theorem Pm.fg (h : Pm n f g) : ∀ i, f (g i) = i := h.1
theorem Pm.gf (h : Pm n f g) : ∀ i, g (f i) = i := h.2.1
theorem Pm.hi (h : Pm n f g) : ∀ i, n ≤ i → f i = i := h.2.2.1
theorem Pm.lo (h : Pm n f g) : ∀ i, i < n → f i < n := h.2.2.2.1
theorem Pm.sm (h : Pm n f g) : n ≤ sIdx := h.2.2.2.2
theorem Pm.inj (h : Pm n f g) {i j : Nat} (e : f i = f j) : i = j := by rw [← h.gf i, e, h.gf]
theorem Pm.lt (h : Pm n f g) {m i : Nat} (hm : n ≤ m) : f i < m ↔ i < m := by
  by_cases hi : i < n
  · have := h.lo i hi
    exact ⟨fun _ => by omega, fun _ => by omega⟩
  · rw [h.hi i (by omega)]
theorem Pm.sx (h : Pm n f g) {i : Nat} : f i = sIdx ↔ i = sIdx := by
  have h1 := h.hi sIdx h.sm
  refine ⟨fun e => h.inj (e.trans h1.symm), fun e => by rw [e, h1]⟩
theorem Pm.symm (h : Pm n f g) : Pm n g f := by
  refine ⟨h.gf, h.fg, fun i hi => ?_, fun i hi => ?_, h.sm⟩
  · have := h.gf i
    rw [h.hi i hi] at this
    exact this
  · cases Nat.lt_or_ge (g i) n with
    | inl q => exact q
    | inr q =>
      have h1 := h.hi _ q
      rw [h.fg] at h1
      omega
theorem cat_m (f : Nat → Nat) (v : Value) : (mV f v).category = v.category := by cases v <;> rfl
theorem mV_comp {f g : Nat → Nat} (h : ∀ i, f (g i) = i) (v : Value) : mV f (mV g v) = v := by
  cases v with
  | ref i => exact congrArg Value.ref (h i)
  | _ => rfl
theorem mC_comp {f g : Nat → Nat} (h : ∀ i, f (g i) = i) (c : SC) : mC f (mC g c) = c := by
  match c with
  | .inl (k, l) =>
    have e : (l.map (mV g)).map (mV f) = l := by
      rw [List.map_map]
      exact (List.map_congr_left fun v _ => mV_comp h v).trans (List.map_id l)
    show (Sum.inl (k, (l.map (mV g)).map (mV f)) : SC) = _
    rw [e]
  | .inr (k, .inl l) => rfl
  | .inr (k, .inr (.inl l)) => rfl
  | .inr (k, .inr (.inr l)) =>
    have e : (l.map (Option.map g)).map (Option.map f) = l := by
      rw [List.map_map]
      refine (List.map_congr_left fun v _ => ?_).trans (List.map_id l)
      cases v with
      | none => rfl
      | some i => exact congrArg some (h i)
    show (Sum.inr (k, .inr (.inr ((l.map (Option.map g)).map (Option.map f)))) : SC) = _
    rw [e]
theorem lvGet_m (f : Nat → Nat) (lv : LV) (k : Nat) : lvGet (mL f lv) k = (lvGet lv k).map (mV f) := by
  unfold lvGet mL
  rw [List.find?_map]
  have e : ((fun q : Nat × Value => q.1 == k) ∘ fun (q : Nat × Value) => (q.1, mV f q.2)) = fun q => q.1 == k := rfl
  rw [e]
  cases lv.find? (fun q => q.1 == k) with
  | none => rfl
  | some q => rfl
theorem lvSet1_m (f : Nat → Nat) (lv : LV) (k : Nat) (v : Value) : lvSet1 (mL f lv) k (mV f v) = mL f (lvSet1 lv k v) := by
  unfold lvSet1 mL
  rw [List.map_cons, List.filter_map]
  have e : ((fun q : Nat × Value => !(q.1 == k) && !(q.1 + 1 == k && q.2.category == 2)) ∘ fun (q : Nat × Value) => (q.1, mV f q.2)) = fun q => !(q.1 == k) && !(q.1 + 1 == k && q.2.category == 2) := by
    funext q
    show (!(q.1 == k) && !(q.1 + 1 == k && (mV f q.2).category == 2)) = _
    rw [cat_m]
  rw [e]
theorem lvSet2_m (f : Nat → Nat) (lv : LV) (k : Nat) (v : Value) : lvSet2 (mL f lv) k (mV f v) = mL f (lvSet2 lv k v) := by
  unfold lvSet2 mL
  rw [List.map_cons, List.filter_map]
  have e : ((fun q : Nat × Value => !(q.1 == k) && (!(q.1 == k + 1) && !(q.1 + 1 == k && q.2.category == 2))) ∘ fun (q : Nat × Value) => (q.1, mV f q.2)) = fun q => !(q.1 == k) && (!(q.1 == k + 1) && !(q.1 + 1 == k && q.2.category == 2)) := by
    funext q
    show (!(q.1 == k) && (!(q.1 == k + 1) && !(q.1 + 1 == k && (mV f q.2).category == 2))) = _
    rw [cat_m]
  rw [e]
-- the steps
theorem bi_m (f : Nat → Nat) (F : Int32 → Int32 → Int32) (st : List Value) : bi F (st.map (mV f)) = (bi F st).map (List.map (mV f)) := by
  rcases st with _ | ⟨v, _ | ⟨w, r⟩⟩
  · rfl
  · cases v <;> rfl
  · cases v <;> cases w <;> rfl
theorem bl_m (f : Nat → Nat) (F : Int64 → Int64 → Int64) (st : List Value) : bl F (st.map (mV f)) = (bl F st).map (List.map (mV f)) := by
  rcases st with _ | ⟨v, _ | ⟨w, r⟩⟩
  · rfl
  · cases v <;> rfl
  · cases v <;> cases w <;> rfl
theorem ui_m (f : Nat → Nat) (F : Int32 → Int32) (st : List Value) : ui F (st.map (mV f)) = (ui F st).map (List.map (mV f)) := by
  rcases st with _ | ⟨v, r⟩
  · rfl
  · cases v <;> rfl
theorem biN_m (f : Nat → Nat) (F : Int32 → Int32 → Int32) (st : List Value) : biN F (st.map (mV f)) = (biN F st).map (List.map (mV f)) := by
  rcases st with _ | ⟨v, _ | ⟨w, r⟩⟩
  · rfl
  · cases v <;> rfl
  · cases v with
    | int y =>
      cases w with
      | int x =>
        show (if y = 0 then none else some (.int (F x y) :: r.map (mV f))) = (if y = 0 then none else some (.int (F x y) :: r) : Option (List Value)).map (List.map (mV f))
        split <;> rfl
      | _ => rfl
    | _ => cases w <;> rfl
theorem blN_m (f : Nat → Nat) (F : Int64 → Int64 → Int64) (st : List Value) : blN F (st.map (mV f)) = (blN F st).map (List.map (mV f)) := by
  rcases st with _ | ⟨v, _ | ⟨w, r⟩⟩
  · rfl
  · cases v <;> rfl
  · cases v with
    | long y =>
      cases w with
      | long x =>
        show (if y = 0 then none else some (.long (F x y) :: r.map (mV f))) = (if y = 0 then none else some (.long (F x y) :: r) : Option (List Value)).map (List.map (mV f))
        split <;> rfl
      | _ => rfl
    | _ => cases w <;> rfl
theorem ldI_m (f : Nat → Nat) (lv : LV) (k : Nat) (st : List Value) : ldI (mL f lv) k (st.map (mV f)) = (ldI lv k st).map (List.map (mV f)) := by
  unfold ldI
  rw [lvGet_m]
  cases lvGet lv k with
  | none => rfl
  | some v => cases v <;> rfl
theorem ldL_m (f : Nat → Nat) (lv : LV) (k : Nat) (st : List Value) : ldL (mL f lv) k (st.map (mV f)) = (ldL lv k st).map (List.map (mV f)) := by
  unfold ldL
  rw [lvGet_m]
  cases lvGet lv k with
  | none => rfl
  | some v => cases v <;> rfl
theorem ldA_m (f : Nat → Nat) (lv : LV) (k : Nat) (st : List Value) : ldA (mL f lv) k (st.map (mV f)) = (ldA lv k st).map (List.map (mV f)) := by
  unfold ldA
  rw [lvGet_m]
  cases lvGet lv k with
  | none => rfl
  | some v => cases v <;> rfl
theorem stepA_m (f : Nat → Nat) (i : Instr) (a : Nat) (st : List Value) (lv : LV) : stepA i a (st.map (mV f)) (mL f lv) = (stepA i a st lv).map (List.map (mV f)) := by
  cases i
  case dup =>
    rcases st with _ | ⟨v, r⟩
    · rfl
    · show (if (mV f v).category = 1 then some (mV f v :: mV f v :: r.map (mV f)) else none) = (if v.category = 1 then some (v :: v :: r) else none : Option (List Value)).map (List.map (mV f))
      rw [cat_m]
      split <;> rfl
  case dup2 =>
    rcases st with _ | ⟨v, _ | ⟨w, r⟩⟩
    · rfl
    · rfl
    · show (if (mV f v).category = 1 ∧ (mV f w).category = 1 then some (mV f v :: mV f w :: mV f v :: mV f w :: r.map (mV f)) else none) = (if v.category = 1 ∧ w.category = 1 then some (v :: w :: v :: w :: r) else none : Option (List Value)).map (List.map (mV f))
      rw [cat_m, cat_m]
      split <;> rfl
  case lneg =>
    rcases st with _ | ⟨v, r⟩
    · rfl
    · cases v <;> rfl
  case i2l =>
    rcases st with _ | ⟨v, r⟩
    · rfl
    · cases v <;> rfl
  case l2i =>
    rcases st with _ | ⟨v, r⟩
    · rfl
    · cases v <;> rfl
  case lcmp =>
    rcases st with _ | ⟨v, _ | ⟨w, r⟩⟩
    · rfl
    · cases v <;> rfl
    · cases v <;> cases w <;> rfl
  all_goals first
    | rfl
    | exact bi_m f _ st
    | exact bl_m f _ st
    | exact ui_m f _ st
    | exact biN_m f _ st
    | exact blN_m f _ st
    | exact ldI_m f lv _ st
    | exact ldL_m f lv _ st
    | exact ldA_m f lv _ st
abbrev mB (f : Nat → Nat) (q : List Value × LV) : List Value × LV := (q.1.map (mV f), mL f q.2)
theorem stI_m (f : Nat → Nat) (nL : Nat) (lv : LV) (k : Nat) (st : List Value) : stI nL (mL f lv) k (st.map (mV f)) = (stI nL lv k st).map (mB f) := by
  rcases st with _ | ⟨v, r⟩
  · rfl
  · cases v with
    | int x =>
      show (if k < nL then some (r.map (mV f), lvSet1 (mL f lv) k (mV f (.int x))) else none) = (if k < nL then some (r, lvSet1 lv k (.int x)) else none : Option (List Value × LV)).map (mB f)
      rw [lvSet1_m]
      split <;> rfl
    | _ => rfl
theorem stL_m (f : Nat → Nat) (nL : Nat) (lv : LV) (k : Nat) (st : List Value) : stL nL (mL f lv) k (st.map (mV f)) = (stL nL lv k st).map (mB f) := by
  rcases st with _ | ⟨v, r⟩
  · rfl
  · cases v with
    | long x =>
      show (if k + 1 < nL then some (r.map (mV f), lvSet2 (mL f lv) k (mV f (.long x))) else none) = (if k + 1 < nL then some (r, lvSet2 lv k (.long x)) else none : Option (List Value × LV)).map (mB f)
      rw [lvSet2_m]
      split <;> rfl
    | _ => rfl
theorem stA_m (f : Nat → Nat) (nL : Nat) (lv : LV) (k : Nat) (st : List Value) : stA nL (mL f lv) k (st.map (mV f)) = (stA nL lv k st).map (mB f) := by
  rcases st with _ | ⟨v, r⟩
  · rfl
  · cases v with
    | ref x =>
      show (if k < nL then some (r.map (mV f), lvSet1 (mL f lv) k (mV f (.ref x))) else none) = (if k < nL then some (r, lvSet1 lv k (.ref x)) else none : Option (List Value × LV)).map (mB f)
      rw [lvSet1_m]
      split <;> rfl
    | _ => rfl
theorem stepB_m (f : Nat → Nat) (i : Instr) (nL : Nat) (st : List Value) (lv : LV) : stepB i nL (st.map (mV f)) (mL f lv) = (stepB i nL st lv).map (mB f) := by
  cases i
  case iinc k m =>
    unfold stepB
    dsimp only
    rw [lvGet_m]
    cases lvGet lv k with
    | none => rfl
    | some v =>
      cases v with
      | int x =>
        show (if k < nL then some (st.map (mV f), lvSet1 (mL f lv) k (mV f (.int (x + Int32.ofInt m)))) else none) = (if k < nL then some (st, lvSet1 lv k (.int (x + Int32.ofInt m))) else none : Option (List Value × LV)).map (mB f)
        rw [lvSet1_m]
        split <;> rfl
      | _ => rfl
  case pop =>
    rcases st with _ | ⟨v, r⟩
    · rfl
    · show (if (mV f v).category = 1 then some (r.map (mV f), mL f lv) else none) = (if v.category = 1 then some (r, lv) else none : Option (List Value × LV)).map (mB f)
      rw [cat_m]
      split <;> rfl
  case pop2 =>
    rcases st with _ | ⟨v, r⟩
    · rfl
    · show (if (mV f v).category = 2 then some (r.map (mV f), mL f lv) else none) = (if v.category = 2 then some (r, lv) else none : Option (List Value × LV)).map (mB f)
      rw [cat_m]
      split <;> rfl
  all_goals first
    | rfl
    | exact stI_m f nL lv _ st
    | exact stL_m f nL lv _ st
    | exact stA_m f nL lv _ st
abbrev mJ (f : Nat → Nat) (q : Nat × List Value) : Nat × List Value := (q.1, q.2.map (mV f))
theorem jIf_m (f : Nat → Nat) (b : Bool) (pc : Nat) (off : Int) (r : List Value) : jIf b pc off (r.map (mV f)) = (jIf b pc off r).map (mJ f) := by
  unfold jIf
  cases jmp pc off with
  | none => rfl
  | some t => rfl
theorem jmp_m (f : Nat → Nat) (pc : Nat) (off : Int) (r : List Value) : (jmp pc off).map (fun t => (t, r.map (mV f))) = ((jmp pc off).map (fun t => (t, r))).map (mJ f) := by
  cases jmp pc off with
  | none => rfl
  | some t => rfl
theorem stepC_m (f : Nat → Nat) (i : Instr) (pc : Nat) (st : List Value) : stepC i pc (st.map (mV f)) = (stepC i pc st).map (mJ f) := by
  cases i
  case goto off => exact jmp_m f pc off st
  case ifCond c off =>
    rcases st with _ | ⟨v, r⟩
    · rfl
    · cases v with
      | int x => exact jIf_m f _ pc off r
      | _ => rfl
  case if_icmp c off =>
    rcases st with _ | ⟨v, _ | ⟨w, r⟩⟩
    · rfl
    · cases v <;> rfl
    · cases v with
      | int y =>
        cases w with
        | int x => exact jIf_m f _ pc off r
        | _ => rfl
      | _ => cases w <;> rfl
  case ifnull off =>
    rcases st with _ | ⟨v, r⟩
    · rfl
    · cases v with
      | null => exact jmp_m f pc off r
      | _ => rfl
  case ifnonnull off =>
    rcases st with _ | ⟨v, r⟩
    · rfl
    · cases v with
      | ref q => exact jmp_m f pc off r
      | _ => rfl
  case tableswitch d lo hi offs =>
    rcases st with _ | ⟨v, r⟩
    · rfl
    · cases v with
      | int x =>
        show (if x.toInt < lo ∨ hi < x.toInt then (jmp pc d).map (fun t => (t, r.map (mV f))) else match offs[(x.toInt - lo).toNat]? with
          | some off => (jmp pc off).map (fun t => (t, r.map (mV f)))
          | none => none) = (if x.toInt < lo ∨ hi < x.toInt then (jmp pc d).map (fun t => (t, r)) else match offs[(x.toInt - lo).toNat]? with
          | some off => (jmp pc off).map (fun t => (t, r))
          | none => none : Option (Nat × List Value)).map (mJ f)
        split
        · exact jmp_m f pc d r
        · cases offs[(x.toInt - lo).toNat]? with
          | none => rfl
          | some off => exact jmp_m f pc off r
      | _ => rfl
  case lookupswitch d ps =>
    rcases st with _ | ⟨v, r⟩
    · rfl
    · cases v with
      | int x =>
        show (if (ps.toList.zip (ps.toList.drop 1)).all (fun (a, next) => a.1 < next.1) = true then (jmp pc (Op.lookupswitch.offset ps.toList d x.toInt)).map (fun t => (t, r.map (mV f))) else none) = (if (ps.toList.zip (ps.toList.drop 1)).all (fun (a, next) => a.1 < next.1) = true then (jmp pc (Op.lookupswitch.offset ps.toList d x.toInt)).map (fun t => (t, r)) else none : Option (Nat × List Value)).map (mJ f)
        split
        · exact jmp_m f pc _ r
        · rfl
      | _ => rfl
  all_goals rfl
-- heaps
def Sim (n : Nat) (f : Nat → Nat) (σ τ : SH) : Prop := n ≤ σ.length ∧ τ.length = σ.length ∧ ∀ i, τ[f i]? = (σ[i]?).map (mC f)
theorem Sim.set {σ τ : SH} (hp : Pm n f g) (h : Sim n f σ τ) (q : Nat) (c : SC) : Sim n f (σ.set q c) (τ.set (f q) (mC f c)) := by
  obtain ⟨h1, h2, h3⟩ := h
  refine ⟨by rw [List.length_set]; exact h1, by rw [List.length_set, List.length_set]; exact h2, fun i => ?_⟩
  by_cases hi : q = i
  · subst hi
    by_cases hl : q < σ.length
    · rw [List.getElem?_set_self hl, List.getElem?_set_self (by rw [h2]; exact (hp.lt h1).mpr hl)]
      rfl
    · have hl2 : σ.length ≤ f q := by
        have := (hp.lt (i := q) h1)
        omega
      rw [List.set_eq_of_length_le (by omega : τ.length ≤ f q), List.set_eq_of_length_le (by omega : σ.length ≤ q)]
      exact h3 q
  · rw [List.getElem?_set_ne hi, List.getElem?_set_ne (fun e => hi (hp.inj e))]
    exact h3 i
theorem Sim.app {σ τ : SH} (hp : Pm n f g) (h : Sim n f σ τ) {c : SC} (hc : mC f c = c) : Sim n f (σ ++ [c]) (τ ++ [c]) := by
  obtain ⟨h1, h2, h3⟩ := h
  refine ⟨by rw [List.length_append]; omega, by rw [List.length_append, List.length_append, h2], fun i => ?_⟩
  by_cases hi : i < σ.length
  · rw [List.getElem?_append_left hi, List.getElem?_append_left (by rw [h2]; exact (hp.lt h1).mpr hi)]
    exact h3 i
  · rw [hp.hi i (by omega), List.getElem?_append_right (by omega), List.getElem?_append_right (by omega), h2]
    cases hj : ([c] : List SC)[i - σ.length]? with
    | none => rfl
    | some x =>
      have : x = c := by
        have := List.mem_of_getElem? hj
        simpa using this
      rw [this]
      show some c = some (mC f c)
      rw [hc]
theorem aI_m {σ τ : SH} (h : Sim n f σ τ) (κ : Nat) (st : List Value) : aI κ (st.map (mV f)) τ = (aI κ st σ).map (List.map (mV f)) := by
  rcases st with _ | ⟨v, _ | ⟨w, r⟩⟩
  · rfl
  · cases v <;> rfl
  · cases v with
    | int j =>
      cases w with
      | ref q =>
        show (match τ[f q]? with
          | some (.inr (k, .inl l)) => if k = κ ∧ inB j l.length = true then some (.int (l.getD j.toNatClampNeg 0) :: r.map (mV f)) else none
          | _ => none) = (match σ[q]? with
          | some (.inr (k, .inl l)) => if k = κ ∧ inB j l.length = true then some (.int (l.getD j.toNatClampNeg 0) :: r) else none
          | _ => none : Option (List Value)).map (List.map (mV f))
        rw [h.2.2 q]
        cases σ[q]? with
        | none => rfl
        | some c =>
          match c with
          | .inl (ci, fs) => rfl
          | .inr (k, .inl l) =>
            show (if k = κ ∧ inB j l.length = true then some (.int (l.getD j.toNatClampNeg 0) :: r.map (mV f)) else none) = (if k = κ ∧ inB j l.length = true then some (.int (l.getD j.toNatClampNeg 0) :: r) else none : Option (List Value)).map (List.map (mV f))
            split <;> rfl
          | .inr (k, .inr (.inl l)) => rfl
          | .inr (k, .inr (.inr l)) => rfl
      | _ => rfl
    | _ => cases w <;> rfl
theorem rf_m (f : Nat → Nat) (l : List (Option Nat)) (k : Nat) : va_rf ((l.map (Option.map f)).getD k none) = mV f (va_rf (l.getD k none)) := by
  rw [List.getD_eq_getElem?_getD, List.getD_eq_getElem?_getD, List.getElem?_map]
  cases l[k]? with
  | none => rfl
  | some o => cases o <;> rfl
theorem stepD_m {σ τ : SH} (hp : Pm n f g) (h : Sim n f σ τ) (scr : Option (List Int32)) (i : Instr) (a b : Nat) (st : List Value) : stepD scr i a b (st.map (mV f)) τ = (stepD scr i a b st σ).map (List.map (mV f)) := by
  cases i
  case getfield ix =>
    rcases st with _ | ⟨v, r⟩
    · rfl
    · cases v with
      | ref q =>
        show (match τ[f q]? with
          | some (.inl (ci, fs)) => if ci = a then (fs[b]?).map (fun v => v :: r.map (mV f)) else none
          | _ => none) = (match σ[q]? with
          | some (.inl (ci, fs)) => if ci = a then (fs[b]?).map (fun v => v :: r) else none
          | _ => none : Option (List Value)).map (List.map (mV f))
        rw [h.2.2 q]
        cases σ[q]? with
        | none => rfl
        | some c =>
          match c with
          | .inl (ci, fs) =>
            show (if ci = a then ((fs.map (mV f))[b]?).map (fun v => v :: r.map (mV f)) else none) = (if ci = a then (fs[b]?).map (fun v => v :: r) else none : Option (List Value)).map (List.map (mV f))
            split
            · rw [List.getElem?_map]
              cases fs[b]? <;> rfl
            · rfl
          | .inr (k, .inl l) => rfl
          | .inr (k, .inr (.inl l)) => rfl
          | .inr (k, .inr (.inr l)) => rfl
      | _ => rfl
  case iaload =>
    cases scr with
    | none => exact aI_m h 0 st
    | some xs =>
      rcases st with _ | ⟨v, _ | ⟨w, r⟩⟩
      · rfl
      · cases v <;> rfl
      · cases v with
        | int j =>
          cases w with
          | ref q =>
            show (if f q = sIdx then (if inB j xs.length = true then some (.int (xs.getD j.toNatClampNeg 0) :: r.map (mV f)) else none) else none) = (if q = sIdx then (if inB j xs.length = true then some (.int (xs.getD j.toNatClampNeg 0) :: r) else none) else none : Option (List Value)).map (List.map (mV f))
            by_cases hq : q = sIdx
            · rw [if_pos hq, if_pos (hp.sx.mpr hq)]
              split <;> rfl
            · rw [if_neg hq, if_neg (fun e => hq (hp.sx.mp e))]
              rfl
          | _ => rfl
        | _ => cases w <;> rfl
  case caload => exact aI_m h 2 st
  case baload => exact aI_m h 3 st
  case laload =>
    rcases st with _ | ⟨v, _ | ⟨w, r⟩⟩
    · rfl
    · cases v <;> rfl
    · cases v with
      | int j =>
        cases w with
        | ref q =>
          show (match τ[f q]? with
            | some (.inr (k, .inr (.inl l))) => if k = 1 ∧ inB j l.length = true then some (.long (l.getD j.toNatClampNeg 0) :: r.map (mV f)) else none
            | _ => none) = (match σ[q]? with
            | some (.inr (k, .inr (.inl l))) => if k = 1 ∧ inB j l.length = true then some (.long (l.getD j.toNatClampNeg 0) :: r) else none
            | _ => none : Option (List Value)).map (List.map (mV f))
          rw [h.2.2 q]
          cases σ[q]? with
          | none => rfl
          | some c =>
            match c with
            | .inl (ci, fs) => rfl
            | .inr (k, .inl l) => rfl
            | .inr (k, .inr (.inl l)) =>
              show (if k = 1 ∧ inB j l.length = true then some (.long (l.getD j.toNatClampNeg 0) :: r.map (mV f)) else none) = (if k = 1 ∧ inB j l.length = true then some (.long (l.getD j.toNatClampNeg 0) :: r) else none : Option (List Value)).map (List.map (mV f))
              split <;> rfl
            | .inr (k, .inr (.inr l)) => rfl
        | _ => rfl
      | _ => cases w <;> rfl
  case aaload =>
    rcases st with _ | ⟨v, _ | ⟨w, r⟩⟩
    · rfl
    · cases v <;> rfl
    · cases v with
      | int j =>
        cases w with
        | ref q =>
          show (match τ[f q]? with
            | some (.inr (k, .inr (.inr l))) => if 4 ≤ k ∧ k < 8 ∧ inB j l.length = true then some (va_rf (l.getD j.toNatClampNeg none) :: r.map (mV f)) else none
            | _ => none) = (match σ[q]? with
            | some (.inr (k, .inr (.inr l))) => if 4 ≤ k ∧ k < 8 ∧ inB j l.length = true then some (va_rf (l.getD j.toNatClampNeg none) :: r) else none
            | _ => none : Option (List Value)).map (List.map (mV f))
          rw [h.2.2 q]
          cases σ[q]? with
          | none => rfl
          | some c =>
            match c with
            | .inl (ci, fs) => rfl
            | .inr (k, .inl l) => rfl
            | .inr (k, .inr (.inl l)) => rfl
            | .inr (k, .inr (.inr l)) =>
              show (if 4 ≤ k ∧ k < 8 ∧ inB j (l.map (Option.map f)).length = true then some (va_rf ((l.map (Option.map f)).getD j.toNatClampNeg none) :: r.map (mV f)) else none) = (if 4 ≤ k ∧ k < 8 ∧ inB j l.length = true then some (va_rf (l.getD j.toNatClampNeg none) :: r) else none : Option (List Value)).map (List.map (mV f))
              rw [List.length_map, rf_m]
              split <;> rfl
        | _ => rfl
      | _ => cases w <;> rfl
  case arraylength =>
    cases scr with
    | none =>
      rcases st with _ | ⟨v, r⟩
      · rfl
      · cases v with
        | ref q =>
          show (match τ[f q]? with
            | some (.inr (k, .inl l)) => if k < 8 then some (.int (Int32.ofNat l.length) :: r.map (mV f)) else none
            | some (.inr (k, .inr (.inl l))) => if k < 8 then some (.int (Int32.ofNat l.length) :: r.map (mV f)) else none
            | _ => none) = (match σ[q]? with
            | some (.inr (k, .inl l)) => if k < 8 then some (.int (Int32.ofNat l.length) :: r) else none
            | some (.inr (k, .inr (.inl l))) => if k < 8 then some (.int (Int32.ofNat l.length) :: r) else none
            | _ => none : Option (List Value)).map (List.map (mV f))
          rw [h.2.2 q]
          cases σ[q]? with
          | none => rfl
          | some c =>
            match c with
            | .inl (ci, fs) => rfl
            | .inr (k, .inl l) =>
              show (if k < 8 then some (.int (Int32.ofNat l.length) :: r.map (mV f)) else none) = (if k < 8 then some (.int (Int32.ofNat l.length) :: r) else none : Option (List Value)).map (List.map (mV f))
              split <;> rfl
            | .inr (k, .inr (.inl l)) =>
              show (if k < 8 then some (.int (Int32.ofNat l.length) :: r.map (mV f)) else none) = (if k < 8 then some (.int (Int32.ofNat l.length) :: r) else none : Option (List Value)).map (List.map (mV f))
              split <;> rfl
            | .inr (k, .inr (.inr l)) => rfl
        | _ => rfl
    | some xs =>
      rcases st with _ | ⟨v, r⟩
      · rfl
      · cases v with
        | ref q =>
          show (if f q = sIdx then some (.int (Int32.ofNat xs.length) :: r.map (mV f)) else none) = (if q = sIdx then some (.int (Int32.ofNat xs.length) :: r) else none : Option (List Value)).map (List.map (mV f))
          by_cases hq : q = sIdx
          · rw [if_pos hq, if_pos (hp.sx.mpr hq)]
            rfl
          · rw [if_neg hq, if_neg (fun e => hq (hp.sx.mp e))]
            rfl
        | _ => rfl
  all_goals first
    | rfl
    | (cases scr <;> rfl)
theorem sI_m {σ σ1 τ : SH} (hp : Pm n f g) (h : Sim n f σ τ) {κ : Nat} {ty : FieldType} {st st1 : List Value} (hs : sI κ ty st σ = some (st1, σ1)) : ∃ τ1, sI κ ty (st.map (mV f)) τ = some (st1.map (mV f), τ1) ∧ Sim n f σ1 τ1 := by
  rcases st with _ | ⟨v, _ | ⟨w, _ | ⟨u, r⟩⟩⟩
  · cases hs
  · cases v <;> cases hs
  · cases v <;> cases w <;> cases hs
  · cases v with
    | int x =>
      cases w with
      | int j =>
        cases u with
        | ref q =>
          have hs' : (match σ[q]? with
            | some (.inr (k, .inl l)) => if k = κ ∧ inB j l.length = true then some (r, σ.set q (.inr (k, .inl (l.set j.toNatClampNeg (vp_nar ty x))))) else none
            | _ => none) = some (st1, σ1) := hs
          show ∃ τ1, (match τ[f q]? with
            | some (.inr (k, .inl l)) => if k = κ ∧ inB j l.length = true then some (r.map (mV f), τ.set (f q) (.inr (k, .inl (l.set j.toNatClampNeg (vp_nar ty x))))) else none
            | _ => none) = some (st1.map (mV f), τ1) ∧ Sim n f σ1 τ1
          rw [h.2.2 q]
          cases hc : σ[q]? with
          | none => rw [hc] at hs'; cases hs'
          | some c =>
            rw [hc] at hs'
            match c, hs' with
            | .inr (k, .inl l), hs' =>
              have hs2 : (if k = κ ∧ inB j l.length = true then some (r, σ.set q (.inr (k, .inl (l.set j.toNatClampNeg (vp_nar ty x))))) else none) = some (st1, σ1) := hs'
              show ∃ τ1, (if k = κ ∧ inB j l.length = true then some (r.map (mV f), τ.set (f q) (.inr (k, .inl (l.set j.toNatClampNeg (vp_nar ty x))))) else none) = some (st1.map (mV f), τ1) ∧ Sim n f σ1 τ1
              split at hs2
              · rename_i hk
                cases hs2
                rw [if_pos hk]
                exact ⟨_, rfl, h.set hp q _⟩
              · cases hs2
            | .inl (ci, fs), hs' => cases hs'
            | .inr (k, .inr (.inl l)), hs' => cases hs'
            | .inr (k, .inr (.inr l)), hs' => cases hs'
        | _ => cases hs
      | _ => cases u <;> cases hs
    | _ => cases w <;> cases u <;> cases hs
theorem fitF_m (f : Nat → Nat) (ty : FieldType) (v : Value) : fitF ty (mV f v) = fitF ty v := by cases ty <;> cases v <;> rfl
theorem cats_m (f : Nat → Nat) (r : List Value) : ((r.map (mV f)).map fun v => v.category) = r.map fun v => v.category := by
  rw [List.map_map]
  exact List.map_congr_left fun v _ => cat_m f v
theorem mset (f : Nat → Nat) (fs : List Value) (b : Nat) (v : Value) : (fs.map (mV f)).set b (mV f v) = (fs.set b v).map (mV f) := (List.map_set ..).symm
theorem stepE_m {σ σ1 τ : SH} (hp : Pm n f g) (h : Sim n f σ τ) {ini : Bool} {o a b : Nat} {i : Instr} {st st1 : List Value} (hs : stepE ini o i a b st σ = some (st1, σ1)) : ∃ τ1, stepE ini o i a b (st.map (mV f)) τ = some (st1.map (mV f), τ1) ∧ Sim n f σ1 τ1 := by
  cases i
  case putfield ix =>
    rcases st with _ | ⟨v, _ | ⟨w, r⟩⟩
    · cases hs
    · cases hs
    · cases w with
      | ref q =>
        have hs' : (match σ[q]? with
          | some (.inl (ci, fs)) => if ci = a ∧ b < fs.length ∧ fitF (clY a b) v = true ∧ ((clT a b).2.2.2 = false ∨ (ini = true ∧ o = a)) then some (r, σ.set q (.inl (ci, fs.set b v))) else none
          | _ => none) = some (st1, σ1) := hs
        show ∃ τ1, (match τ[f q]? with
          | some (.inl (ci, fs)) => if ci = a ∧ b < fs.length ∧ fitF (clY a b) (mV f v) = true ∧ ((clT a b).2.2.2 = false ∨ (ini = true ∧ o = a)) then some (r.map (mV f), τ.set (f q) (.inl (ci, fs.set b (mV f v)))) else none
          | _ => none) = some (st1.map (mV f), τ1) ∧ Sim n f σ1 τ1
        rw [h.2.2 q]
        cases hc : σ[q]? with
        | none => rw [hc] at hs'; cases hs'
        | some c =>
          rw [hc] at hs'
          match c, hs' with
          | .inl (ci, fs), hs' =>
            have hs2 : (if ci = a ∧ b < fs.length ∧ fitF (clY a b) v = true ∧ ((clT a b).2.2.2 = false ∨ (ini = true ∧ o = a)) then some (r, σ.set q (.inl (ci, fs.set b v))) else none) = some (st1, σ1) := hs'
            show ∃ τ1, (if ci = a ∧ b < (fs.map (mV f)).length ∧ fitF (clY a b) (mV f v) = true ∧ ((clT a b).2.2.2 = false ∨ (ini = true ∧ o = a)) then some (r.map (mV f), τ.set (f q) (.inl (ci, (fs.map (mV f)).set b (mV f v)))) else none) = some (st1.map (mV f), τ1) ∧ Sim n f σ1 τ1
            rw [List.length_map, fitF_m, mset]
            split at hs2
            · rename_i hk
              cases hs2
              rw [if_pos hk]
              exact ⟨_, rfl, h.set hp q _⟩
            · cases hs2
          | .inr (k, .inl l), hs' => cases hs'
          | .inr (k, .inr (.inl l)), hs' => cases hs'
          | .inr (k, .inr (.inr l)), hs' => cases hs'
      | _ => cases hs
  case iastore => exact sI_m hp h hs
  case castore => exact sI_m hp h hs
  case bastore => exact sI_m hp h hs
  case lastore =>
    rcases st with _ | ⟨v, _ | ⟨w, _ | ⟨u, r⟩⟩⟩
    · cases hs
    · cases v <;> cases hs
    · cases v <;> cases w <;> cases hs
    · cases v with
      | long x =>
        cases w with
        | int j =>
          cases u with
          | ref q =>
            have hs' : (match σ[q]? with
              | some (.inr (k, .inr (.inl l))) => if k = 1 ∧ inB j l.length = true then some (r, σ.set q (.inr (k, .inr (.inl (l.set j.toNatClampNeg x))))) else none
              | _ => none) = some (st1, σ1) := hs
            show ∃ τ1, (match τ[f q]? with
              | some (.inr (k, .inr (.inl l))) => if k = 1 ∧ inB j l.length = true then some (r.map (mV f), τ.set (f q) (.inr (k, .inr (.inl (l.set j.toNatClampNeg x))))) else none
              | _ => none) = some (st1.map (mV f), τ1) ∧ Sim n f σ1 τ1
            rw [h.2.2 q]
            cases hc : σ[q]? with
            | none => rw [hc] at hs'; cases hs'
            | some c =>
              rw [hc] at hs'
              match c, hs' with
              | .inr (k, .inr (.inl l)), hs' =>
                have hs2 : (if k = 1 ∧ inB j l.length = true then some (r, σ.set q (.inr (k, .inr (.inl (l.set j.toNatClampNeg x))))) else none) = some (st1, σ1) := hs'
                show ∃ τ1, (if k = 1 ∧ inB j l.length = true then some (r.map (mV f), τ.set (f q) (.inr (k, .inr (.inl (l.set j.toNatClampNeg x))))) else none) = some (st1.map (mV f), τ1) ∧ Sim n f σ1 τ1
                split at hs2
                · rename_i hk
                  cases hs2
                  rw [if_pos hk]
                  exact ⟨_, rfl, h.set hp q _⟩
                · cases hs2
              | .inl (ci, fs), hs' => cases hs'
              | .inr (k, .inl l), hs' => cases hs'
              | .inr (k, .inr (.inr l)), hs' => cases hs'
          | _ => cases hs
        | _ => cases u <;> cases hs
      | _ => cases w <;> cases u <;> cases hs
  case aastore =>
    rcases st with _ | ⟨v, _ | ⟨w, _ | ⟨u, r⟩⟩⟩
    · cases hs
    · cases v <;> cases hs
    · cases v <;> cases w <;> cases hs
    · cases v with
      | ref x =>
        cases w with
        | int j =>
          cases u with
          | ref q =>
            have hs' : (match σ[q]?, σ[x]? with
              | some (.inr (k, .inr (.inr l))), some (.inl (ci, _)) => if kty k = .object (ownN ci) ∧ k < 8 ∧ ci < 13 ∧ inB j l.length = true then some (r, σ.set q (.inr (k, .inr (.inr (l.set j.toNatClampNeg (some x)))))) else none
              | _, _ => none) = some (st1, σ1) := hs
            show ∃ τ1, (match τ[f q]?, τ[f x]? with
              | some (.inr (k, .inr (.inr l))), some (.inl (ci, _)) => if kty k = .object (ownN ci) ∧ k < 8 ∧ ci < 13 ∧ inB j l.length = true then some (r.map (mV f), τ.set (f q) (.inr (k, .inr (.inr (l.set j.toNatClampNeg (some (f x))))))) else none
              | _, _ => none) = some (st1.map (mV f), τ1) ∧ Sim n f σ1 τ1
            rw [h.2.2 q, h.2.2 x]
            cases hc : σ[q]? with
            | none => rw [hc] at hs'; cases hs'
            | some c =>
              cases hx : σ[x]? with
              | none => rw [hc, hx] at hs'; cases c <;> (try cases hs') <;> (rename_i z; obtain ⟨k, z⟩ := z; rcases z with z | z | z <;> cases hs')
              | some cx =>
                rw [hc, hx] at hs'
                match c, cx, hs' with
                | .inr (k, .inr (.inr l)), .inl (ci, fs), hs' =>
                  have hs2 : (if kty k = .object (ownN ci) ∧ k < 8 ∧ ci < 13 ∧ inB j l.length = true then some (r, σ.set q (.inr (k, .inr (.inr (l.set j.toNatClampNeg (some x)))))) else none) = some (st1, σ1) := hs'
                  show ∃ τ1, (if kty k = .object (ownN ci) ∧ k < 8 ∧ ci < 13 ∧ inB j (l.map (Option.map f)).length = true then some (r.map (mV f), τ.set (f q) (.inr (k, .inr (.inr ((l.map (Option.map f)).set j.toNatClampNeg (some (f x))))))) else none) = some (st1.map (mV f), τ1) ∧ Sim n f σ1 τ1
                  rw [List.length_map, show (l.map (Option.map f)).set j.toNatClampNeg (some (f x)) = (l.set j.toNatClampNeg (some x)).map (Option.map f) from (by rw [List.map_set]; rfl)]
                  split at hs2
                  · rename_i hk
                    cases hs2
                    rw [if_pos hk]
                    exact ⟨_, rfl, h.set hp q _⟩
                  · cases hs2
                | .inr (k, .inr (.inr l)), .inr cy, hs' => cases hs'
                | .inl (ci, fs), cy, hs' => cases hs'
                | .inr (k, .inl l), cy, hs' => cases hs'
                | .inr (k, .inr (.inl l)), cy, hs' => cases hs'
          | _ => cases hs
        | _ => cases u <;> cases hs
      | _ => cases w <;> cases u <;> cases hs
  case invokestatic ix =>
    rcases st with _ | ⟨v1, _ | ⟨v2, _ | ⟨v3, _ | ⟨v4, _ | ⟨v5, r⟩⟩⟩⟩⟩
    · cases hs
    · cases v1 <;> cases hs
    · cases v1 <;> cases v2 <;> cases hs
    · cases v1 <;> first | (cases hs; done) | (cases v2 <;> first | (cases hs; done) | (cases v3 <;> cases hs))
    · cases v1 <;> first | (cases hs; done) | (cases v2 <;> first | (cases hs; done) | (cases v3 <;> first | (cases hs; done) | (cases v4 <;> cases hs)))
    · cases v1 with
      | int cn =>
        cases v2 with
        | int dp =>
          cases v3 with
          | ref q1 =>
            cases v4 with
            | int sp =>
              cases v5 with
              | ref q0 =>
                have hs' : (match σ[q0]?, σ[q1]? with
                  | some (.inr (k0, .inl f0)), some (.inr (k1, .inl g0)) =>
                    if (k0 = k1 ∧ (k0 = 0 ∨ k0 = 2)) ∧ (0 ≤ sp ∧ 0 ≤ dp ∧ 0 ≤ cn) ∧ (sp.toNatClampNeg + cn.toNatClampNeg ≤ f0.length ∧ dp.toNatClampNeg + cn.toNatClampNeg ≤ g0.length) ∧ (f0.all (fun x => fits (kty k0) (.int x)) = true ∧ (r.map fun v => v.category).sum ≤ 8)
                    then some (r, σ.set q1 (.inr (k1, .inl (cpyL f0 g0 sp.toNatClampNeg dp.toNatClampNeg cn.toNatClampNeg)))) else none
                  | _, _ => none) = some (st1, σ1) := hs
                show ∃ τ1, (match τ[f q0]?, τ[f q1]? with
                  | some (.inr (k0, .inl f0)), some (.inr (k1, .inl g0)) =>
                    if (k0 = k1 ∧ (k0 = 0 ∨ k0 = 2)) ∧ (0 ≤ sp ∧ 0 ≤ dp ∧ 0 ≤ cn) ∧ (sp.toNatClampNeg + cn.toNatClampNeg ≤ f0.length ∧ dp.toNatClampNeg + cn.toNatClampNeg ≤ g0.length) ∧ (f0.all (fun x => fits (kty k0) (.int x)) = true ∧ ((r.map (mV f)).map fun v => v.category).sum ≤ 8)
                    then some (r.map (mV f), τ.set (f q1) (.inr (k1, .inl (cpyL f0 g0 sp.toNatClampNeg dp.toNatClampNeg cn.toNatClampNeg)))) else none
                  | _, _ => none) = some (st1.map (mV f), τ1) ∧ Sim n f σ1 τ1
                rw [h.2.2 q0, h.2.2 q1, cats_m]
                cases hc : σ[q0]? with
                | none => rw [hc] at hs'; cases hs'
                | some c =>
                  cases hx : σ[q1]? with
                  | none => rw [hc, hx] at hs'; cases c <;> (try cases hs') <;> (rename_i z; obtain ⟨k, z⟩ := z; rcases z with z | z | z <;> cases hs')
                  | some cx =>
                    rw [hc, hx] at hs'
                    match c, cx, hs' with
                    | .inr (k0, .inl f0), .inr (k1, .inl g0), hs' =>
                      have hs2 : (if (k0 = k1 ∧ (k0 = 0 ∨ k0 = 2)) ∧ (0 ≤ sp ∧ 0 ≤ dp ∧ 0 ≤ cn) ∧ (sp.toNatClampNeg + cn.toNatClampNeg ≤ f0.length ∧ dp.toNatClampNeg + cn.toNatClampNeg ≤ g0.length) ∧ (f0.all (fun x => fits (kty k0) (.int x)) = true ∧ (r.map fun v => v.category).sum ≤ 8)
                        then some (r, σ.set q1 (.inr (k1, .inl (cpyL f0 g0 sp.toNatClampNeg dp.toNatClampNeg cn.toNatClampNeg)))) else none) = some (st1, σ1) := hs'
                      show ∃ τ1, (if (k0 = k1 ∧ (k0 = 0 ∨ k0 = 2)) ∧ (0 ≤ sp ∧ 0 ≤ dp ∧ 0 ≤ cn) ∧ (sp.toNatClampNeg + cn.toNatClampNeg ≤ f0.length ∧ dp.toNatClampNeg + cn.toNatClampNeg ≤ g0.length) ∧ (f0.all (fun x => fits (kty k0) (.int x)) = true ∧ (r.map fun v => v.category).sum ≤ 8)
                        then some (r.map (mV f), τ.set (f q1) (.inr (k1, .inl (cpyL f0 g0 sp.toNatClampNeg dp.toNatClampNeg cn.toNatClampNeg)))) else none) = some (st1.map (mV f), τ1) ∧ Sim n f σ1 τ1
                      split at hs2
                      · rename_i hk
                        cases hs2
                        rw [if_pos hk]
                        exact ⟨_, rfl, h.set hp q1 _⟩
                      · cases hs2
                    | .inr (k0, .inl f0), .inl _, hs' => cases hs'
                    | .inr (k0, .inl f0), .inr (_, .inr _), hs' => cases hs'
                    | .inl (ci, fs), cy, hs' => cases hs'
                    | .inr (k, .inr (.inl l)), cy, hs' => cases hs'
                    | .inr (k, .inr (.inr l)), cy, hs' => cases hs'
              | _ => cases hs
            | _ => cases v5 <;> cases hs
          | _ => cases v4 <;> cases v5 <;> cases hs
        | _ => cases v3 <;> first | (cases hs; done) | (cases v4 <;> first | (cases hs; done) | (cases v5 <;> cases hs))
      | _ => cases v2 <;> first | (cases hs; done) | (cases v3 <;> first | (cases hs; done) | (cases v4 <;> first | (cases hs; done) | (cases v5 <;> cases hs)))
  all_goals cases hs
-- new cells
theorem okV_m (hp : Pm n f g) {m : Nat} (hm : n ≤ m) {v : Value} : okV m (mV f v) = okV m v := by
  cases v with
  | ref i =>
    show (decide (f i < m) || f i == sIdx) = (decide (i < m) || i == sIdx)
    have e1 : decide (f i < m) = decide (i < m) := decide_eq_decide.mpr (hp.lt hm)
    have e2 : (f i == sIdx) = (i == sIdx) := by
      rw [Bool.eq_iff_iff, beq_iff_eq, beq_iff_eq]
      exact hp.sx
    rw [e1, e2]
  | _ => rfl
theorem okVs_m (hp : Pm n f g) {m : Nat} (hm : n ≤ m) {v : Value} : okVs m (mV f v) = okVs m v := by
  cases v with
  | ref i => exact decide_eq_decide.mpr (hp.lt hm)
  | _ => rfl
theorem okC_m (hp : Pm n f g) {m : Nat} (hm : n ≤ m) {c : SC} : okC m (mC f c) = okC m c := by
  match c with
  | .inl (ci, fs) =>
    show (fs.map (mV f)).all (okVs m) = fs.all (okVs m)
    rw [List.all_map]
    exact congrArg (fun q => fs.all q) (funext fun v => okVs_m hp hm)
  | .inr (k, .inl l) => rfl
  | .inr (k, .inr (.inl l)) => rfl
  | .inr (k, .inr (.inr l)) =>
    show (l.map (Option.map f)).all (fun o => match o with
      | some i => decide (i < m)
      | none => true) = l.all (fun o => match o with
      | some i => decide (i < m)
      | none => true)
    rw [List.all_map]
    refine congrArg (fun q => l.all q) (funext fun o => ?_)
    cases o with
    | none => rfl
    | some i => exact decide_eq_decide.mpr (hp.lt hm)
theorem allC_m {σ τ : SH} (hp : Pm n f g) (h : Sim n f σ τ) {m : Nat} (hm : n ≤ m) (ha : σ.all (okC m) = true) : τ.all (okC m) = true := by
  refine List.all_eq_true.mpr fun c hc => ?_
  obtain ⟨j, hj⟩ := List.getElem?_of_mem hc
  have h3 := h.2.2 (g j)
  rw [hp.fg, hj] at h3
  cases hs : σ[g j]? with
  | none => rw [hs] at h3; cases h3
  | some d =>
    rw [hs] at h3
    cases h3
    rw [okC_m hp hm]
    exact List.all_eq_true.mp ha d (List.mem_of_getElem? hs)
theorem okFr_m (hp : Pm n f g) {m : Nat} (hm : n ≤ m) {st : List Value} {lv : LV} : okFr m (st.map (mV f)) (mL f lv) = okFr m st lv := by
  unfold okFr mL
  rw [List.all_map, List.all_map]
  have e1 : (okV m ∘ mV f) = okV m := funext fun v => okV_m hp hm
  have e2 : ((fun q : Nat × Value => okV m q.2) ∘ fun (q : Nat × Value) => (q.1, mV f q.2)) = fun q => okV m q.2 := funext fun q => okV_m hp hm
  rw [e1, e2]
theorem newOk_m {σ τ : SH} (hp : Pm n f g) (h : Sim n f σ τ) {st : List Value} {lv : LV} (ha : newOk σ st lv = true) : newOk τ (st.map (mV f)) (mL f lv) = true := by
  unfold newOk at ha ⊢
  rw [Bool.and_eq_true, Bool.and_eq_true] at ha ⊢
  rw [h.2.1, okFr_m hp h.1]
  exact ⟨ha.1, allC_m hp h h.1 ha.2.1, ha.2.2⟩
theorem dfl_m (f : Nat → Nat) (ty : FieldType) : mV f (defaultValue ty) = defaultValue ty := by cases ty <;> rfl
theorem blank_m (f : Nat → Nat) (ci : Nat) : (blankF ci).map (mV f) = blankF ci := by
  unfold blankF
  rw [List.map_map]
  exact List.map_congr_left fun k _ => dfl_m f _
theorem stepF_m {σ σ1 τ : SH} (hp : Pm n f g) (h : Sim n f σ τ) {a kc ks : Nat} {i : Instr} {st st1 : List Value} {lv : LV} (hs : stepF i a st lv σ = some (st1, σ1, kc, ks)) : ∃ τ1, stepF i a (st.map (mV f)) (mL f lv) τ = some (st1.map (mV f), τ1, kc, ks) ∧ Sim n f σ1 τ1 := by
  have hlen : f σ.length = σ.length := hp.hi _ h.1
  have hr : ∀ r : List Value, (Value.ref σ.length :: r).map (mV f) = .ref τ.length :: r.map (mV f) := fun r => by
    show Value.ref (f σ.length) :: _ = _
    rw [hlen, h.2.1]
  cases i
  case new ix =>
    have hs' : (if newOk σ st lv = true ∧ a < 13 then some (.ref σ.length :: st, σ ++ [.inl (a, blankF a)], 1, clN a) else none) = some (st1, σ1, kc, ks) := hs
    show ∃ τ1, (if newOk τ (st.map (mV f)) (mL f lv) = true ∧ a < 13 then some (.ref τ.length :: st.map (mV f), τ ++ [.inl (a, blankF a)], 1, clN a) else none) = some (st1.map (mV f), τ1, kc, ks) ∧ Sim n f σ1 τ1
    split at hs'
    · rename_i hk
      cases hs'
      rw [if_pos ⟨newOk_m hp h hk.1, hk.2⟩, hr]
      exact ⟨_, rfl, h.app hp (by show (Sum.inl (a, (blankF a).map (mV f)) : SC) = _; rw [blank_m])⟩
    · cases hs'
  case newarray ty =>
    rcases st with _ | ⟨v, r⟩
    · cases hs
    · cases v with
      | int cn =>
        have hs' : (if newOk σ (.int cn :: r) lv = true ∧ 0 ≤ cn ∧ cn.toNatClampNeg ≤ 10000 then
          (match a with
          | 1 => some (.ref σ.length :: r, σ ++ [.inr (1, .inr (.inl (List.replicate cn.toNatClampNeg 0)))], 1, cn.toNatClampNeg)
          | 0 => some (.ref σ.length :: r, σ ++ [.inr (0, .inl (List.replicate cn.toNatClampNeg 0))], 1, cn.toNatClampNeg)
          | 2 => some (.ref σ.length :: r, σ ++ [.inr (2, .inl (List.replicate cn.toNatClampNeg 0))], 1, cn.toNatClampNeg)
          | 3 => some (.ref σ.length :: r, σ ++ [.inr (3, .inl (List.replicate cn.toNatClampNeg 0))], 1, cn.toNatClampNeg)
          | _ => none) else none) = some (st1, σ1, kc, ks) := hs
        show ∃ τ1, (if newOk τ ((Value.int cn :: r).map (mV f)) (mL f lv) = true ∧ 0 ≤ cn ∧ cn.toNatClampNeg ≤ 10000 then
          (match a with
          | 1 => some (.ref τ.length :: r.map (mV f), τ ++ [.inr (1, .inr (.inl (List.replicate cn.toNatClampNeg 0)))], 1, cn.toNatClampNeg)
          | 0 => some (.ref τ.length :: r.map (mV f), τ ++ [.inr (0, .inl (List.replicate cn.toNatClampNeg 0))], 1, cn.toNatClampNeg)
          | 2 => some (.ref τ.length :: r.map (mV f), τ ++ [.inr (2, .inl (List.replicate cn.toNatClampNeg 0))], 1, cn.toNatClampNeg)
          | 3 => some (.ref τ.length :: r.map (mV f), τ ++ [.inr (3, .inl (List.replicate cn.toNatClampNeg 0))], 1, cn.toNatClampNeg)
          | _ => none) else none) = some (st1.map (mV f), τ1, kc, ks) ∧ Sim n f σ1 τ1
        split at hs'
        · rename_i hk
          rw [if_pos ⟨newOk_m hp h hk.1, hk.2⟩]
          split at hs' <;> first
            | (cases hs'; rw [hr]; exact ⟨_, rfl, h.app hp rfl⟩)
            | cases hs'
        · cases hs'
      | _ => cases hs
  case anewarray ix =>
    rcases st with _ | ⟨v, r⟩
    · cases hs
    · cases v with
      | int cn =>
        have hs' : (if newOk σ (.int cn :: r) lv = true ∧ 0 ≤ cn ∧ cn.toNatClampNeg ≤ 10000 ∧ (4 ≤ a ∧ a < 8) then some (.ref σ.length :: r, σ ++ [.inr (a, .inr (.inr (List.replicate cn.toNatClampNeg none)))], 1, cn.toNatClampNeg) else none) = some (st1, σ1, kc, ks) := hs
        show ∃ τ1, (if newOk τ ((Value.int cn :: r).map (mV f)) (mL f lv) = true ∧ 0 ≤ cn ∧ cn.toNatClampNeg ≤ 10000 ∧ (4 ≤ a ∧ a < 8) then some (.ref τ.length :: r.map (mV f), τ ++ [.inr (a, .inr (.inr (List.replicate cn.toNatClampNeg none)))], 1, cn.toNatClampNeg) else none) = some (st1.map (mV f), τ1, kc, ks) ∧ Sim n f σ1 τ1
        split at hs'
        · rename_i hk
          cases hs'
          rw [if_pos ⟨newOk_m hp h hk.1, hk.2⟩, hr]
          exact ⟨_, rfl, h.app hp (by show (Sum.inr (a, .inr (.inr ((List.replicate cn.toNatClampNeg none).map (Option.map f)))) : SC) = _; rw [List.map_replicate]; rfl)⟩
        · cases hs'
      | _ => cases hs
  case invokespecial ix =>
    rcases st with _ | ⟨v, r⟩
    · cases hs
    · cases v with
      | ref q =>
        have hs' : (if (r.map fun v => v.category).sum ≤ 8 then some (r, σ, 0, 0) else none) = some (st1, σ1, kc, ks) := hs
        show ∃ τ1, (if ((r.map (mV f)).map fun v => v.category).sum ≤ 8 then some (r.map (mV f), τ, 0, 0) else none) = some (st1.map (mV f), τ1, kc, ks) ∧ Sim n f σ1 τ1
        rw [cats_m]
        split at hs'
        · rename_i hk
          cases hs'
          rw [if_pos hk]
          exact ⟨_, rfl, h⟩
        · cases hs'
      | _ => cases hs
  all_goals cases hs
-- calls
theorem isCls_m {σ τ : SH} (h : Sim n f σ τ) (me : ME) (as : List Value) : isCls me (as.map (mV f)) τ = isCls me as σ := by
  unfold isCls
  rcases mKd me with _ | _ | _ | k
  · rcases as with _ | ⟨v, r⟩
    · rfl
    · cases v with
      | ref q =>
        show (match τ[f q]? with
          | some (.inl (ci, _)) => decide (ci = mOw me) && decide (ci < 13)
          | _ => false) = (match σ[q]? with
          | some (.inl (ci, _)) => decide (ci = mOw me) && decide (ci < 13)
          | _ => false)
        rw [h.2.2 q]
        cases σ[q]? with
        | none => rfl
        | some c =>
          match c with
          | .inl (ci, fs) => rfl
          | .inr (k, .inl l) => rfl
          | .inr (k, .inr (.inl l)) => rfl
          | .inr (k, .inr (.inr l)) => rfl
      | _ => rfl
  · rcases as with _ | ⟨v, r⟩
    · rfl
    · cases v <;> rfl
  · rfl
  · rcases as with _ | ⟨v, r⟩
    · rfl
    · cases v <;> rfl
theorem callIn_m {σ τ : SH} (hp : Pm n f g) (h : Sim n f σ τ) {a b : Nat} {st as rest : List Value} {lv : LV} (hs : callIn a b st lv σ = some (as, rest)) : callIn a b (st.map (mV f)) (mL f lv) τ = some (as.map (mV f), rest.map (mV f)) := by
  unfold callIn at hs ⊢
  cases hm : meths[a]? with
  | none => rw [hm] at hs; cases hs
  | some me =>
    rw [hm] at hs
    dsimp only at hs ⊢
    split at hs
    · rename_i hk
      obtain ⟨k1, k2, k3, k4⟩ := hk
      cases hs
      rw [if_pos ⟨by rw [List.length_map]; exact k1, by rw [← List.map_drop, cats_m]; exact k2, by rw [h.2.1, ← List.map_drop, okFr_m hp h.1]; exact k3, by rw [← List.map_take, ← List.map_reverse, isCls_m h]; exact k4⟩, ← List.map_take, ← List.map_reverse, ← List.map_drop]
    · cases hs
theorem refsV_m (f : Nat → Nat) (v : Value) : refsV (mV f v) = (refsV v).map f := by cases v <;> rfl
theorem refsVs_m (f : Nat → Nat) (l : List Value) : (l.map (mV f)).flatMap refsV = (l.flatMap refsV).map f := by
  induction l with
  | nil => rfl
  | cons v r ih =>
    rw [List.map_cons, List.flatMap_cons, List.flatMap_cons, List.map_append, ih, refsV_m]
theorem refsC_m (f : Nat → Nat) (c : SC) : refsC (mC f c) = (refsC c).map f := by
  match c with
  | .inl (ci, fs) => exact refsVs_m f fs
  | .inr (k, .inl l) => rfl
  | .inr (k, .inr (.inl l)) => rfl
  | .inr (k, .inr (.inr l)) =>
    show (l.map (Option.map f)).filterMap id = (l.filterMap id).map f
    induction l with
    | nil => rfl
    | cons o r ih =>
      cases o with
      | none => exact ih
      | some i =>
        show f i :: (r.map (Option.map f)).filterMap id = f i :: (r.filterMap id).map f
        rw [ih]
theorem mem_m (hp : Pm n f g) {i : Nat} {l : List Nat} : f i ∈ l.map f ↔ i ∈ l := by
  rw [List.mem_map]
  exact ⟨fun ⟨j, h1, h2⟩ => hp.inj h2 ▸ h1, fun h => ⟨i, h, rfl⟩⟩
theorem reach_m {σ τ : SH} (hp : Pm n f g) (h : Sim n f σ τ) : ∀ (N : Nat) (td seen : List Nat), reach τ N (td.map f) (seen.map f) = (reach σ N td seen).map f := by
  intro N
  induction N with
  | zero => intro td seen; rfl
  | succ N ih =>
    intro td seen
    cases td with
    | nil => rfl
    | cons i td =>
      show (if f i ∈ seen.map f then reach τ N (td.map f) (seen.map f) else match τ[f i]? with
        | some c => reach τ N (refsC c ++ td.map f) (f i :: seen.map f)
        | none => reach τ N (td.map f) (seen.map f)) = (if i ∈ seen then reach σ N td seen else match σ[i]? with
        | some c => reach σ N (refsC c ++ td) (i :: seen)
        | none => reach σ N td seen).map f
      by_cases hi : i ∈ seen
      · rw [if_pos hi, if_pos ((mem_m hp).mpr hi)]
        exact ih td seen
      · rw [if_neg hi, if_neg (fun e => hi ((mem_m hp).mp e)), h.2.2 i]
        cases σ[i]? with
        | none => exact ih td seen
        | some c =>
          show reach τ N (refsC (mC f c) ++ td.map f) (f i :: seen.map f) = (reach σ N (refsC c ++ td) (i :: seen)).map f
          rw [refsC_m, ← List.map_append, ← List.map_cons]
          exact ih _ _
theorem cutI_m {σ τ : SH} (hp : Pm n f g) (h : Sim n f σ τ) (as : List Value) : cutI τ (as.map (mV f)) = (cutI σ as).map f := by
  unfold cutI
  rw [refsVs_m, show ([] : List Nat) = ([] : List Nat).map f from rfl, reach_m hp h, ← List.map_reverse]
  rfl
theorem ixOf_m (hp : Pm n f g) (j : Nat) (I : List Nat) : ixOf (f j) (I.map f) = ixOf j I := by
  induction I with
  | nil => rfl
  | cons a I ih =>
    show (if f a = f j then 0 else ixOf (f j) (I.map f) + 1) = (if a = j then 0 else ixOf j I + 1)
    by_cases e : a = j
    · rw [if_pos e, if_pos (by rw [e])]
    · rw [if_neg e, if_neg (fun q => e (hp.inj q)), ih]
theorem rnV_m (hp : Pm n f g) (I : List Nat) (v : Value) : rnV (I.map f) (mV f v) = rnV I v := by
  cases v with
  | ref j => exact congrArg Value.ref (ixOf_m hp j I)
  | _ => rfl
theorem rnVs_m (hp : Pm n f g) (I : List Nat) (l : List Value) : (l.map (mV f)).map (rnV (I.map f)) = l.map (rnV I) := by
  rw [List.map_map]
  exact List.map_congr_left fun v _ => rnV_m hp I v
theorem rnC_m (hp : Pm n f g) (I : List Nat) (c : SC) : rnC (I.map f) (mC f c) = rnC I c := by
  match c with
  | .inl (ci, fs) =>
    show (Sum.inl (ci, (fs.map (mV f)).map (rnV (I.map f))) : SC) = _
    rw [rnVs_m hp]
    rfl
  | .inr (k, .inl l) => rfl
  | .inr (k, .inr (.inl l)) => rfl
  | .inr (k, .inr (.inr l)) =>
    show (Sum.inr (k, .inr (.inr ((l.map (Option.map f)).map (Option.map (fun j => ixOf j (I.map f)))))) : SC) = .inr (k, .inr (.inr (l.map (Option.map (fun j => ixOf j I)))))
    rw [List.map_map]
    have e : l.map (Option.map (fun j => ixOf j (I.map f)) ∘ Option.map f) = l.map (Option.map (fun j => ixOf j I)) := List.map_congr_left fun o _ => by
      cases o with
      | none => rfl
      | some j => exact congrArg some (ixOf_m hp j I)
    rw [e]
theorem nd_m (hp : Pm n f g) (I : List Nat) : va_nd (I.map f) = va_nd I := by
  induction I with
  | nil => rfl
  | cons a I ih =>
    show (decide (f a ∉ I.map f) && va_nd (I.map f)) = (decide (a ∉ I) && va_nd I)
    rw [ih]
    have e : decide (f a ∉ I.map f) = decide (a ∉ I) := decide_eq_decide.mpr (not_congr (mem_m hp))
    rw [e]
theorem cutOk_m {σ τ : SH} (hp : Pm n f g) (h : Sim n f σ τ) {as : List Value} {I : List Nat} (hc : cutOk σ as I = true) : cutOk τ (as.map (mV f)) (I.map f) = true := by
  unfold cutOk at hc ⊢
  rw [Bool.and_eq_true, Bool.and_eq_true] at hc ⊢
  obtain ⟨h1, h2, h3⟩ := hc
  refine ⟨by rw [nd_m hp]; exact h1, ?_, ?_⟩
  · rw [List.all_map]
    refine List.all_eq_true.mpr fun v hv => ?_
    have h4 := List.all_eq_true.mp h2 v hv
    show (refsV (mV f v)).all _ = true
    rw [refsV_m, List.all_map]
    refine List.all_eq_true.mpr fun i hi => ?_
    exact decide_eq_true ((mem_m hp).mpr (of_decide_eq_true (List.all_eq_true.mp h4 i hi)))
  · rw [List.all_map]
    refine List.all_eq_true.mpr fun i hi => ?_
    have h4 := List.all_eq_true.mp h3 i hi
    show (match τ[f i]? with
      | some c => (refsC c).all (fun j => decide (j ∈ I.map f))
      | none => false) = true
    rw [h.2.2 i]
    cases hs : σ[i]? with
    | none => rw [hs] at h4; cases h4
    | some c =>
      rw [hs] at h4
      show (refsC (mC f c)).all (fun j => decide (j ∈ I.map f)) = true
      rw [refsC_m, List.all_map]
      refine List.all_eq_true.mpr fun j hj => ?_
      exact decide_eq_true ((mem_m hp).mpr (of_decide_eq_true (List.all_eq_true.mp h4 j hj)))
theorem subH_m {σ τ : SH} (hp : Pm n f g) (h : Sim n f σ τ) (I : List Nat) : subH τ (I.map f) = subH σ I := by
  unfold subH
  rw [List.map_map]
  refine List.map_congr_left fun i _ => ?_
  show rnC (I.map f) (τ.getD (f i) (.inl (0, []))) = rnC I (σ.getD i (.inl (0, [])))
  rw [List.getD_eq_getElem?_getD, List.getD_eq_getElem?_getD, h.2.2 i]
  cases σ[i]? with
  | none => rfl
  | some c => exact rnC_m hp I c
theorem urN_m (hp : Pm n f g) {m : Nat} (hm : n ≤ m) (I : List Nat) (k : Nat) : urN (I.map f) m k = f (urN I m k) := by
  unfold urN
  rw [List.length_map]
  by_cases hk : k < I.length
  · rw [if_pos hk, if_pos hk, List.getD_eq_getElem?_getD, List.getD_eq_getElem?_getD, List.getElem?_map, List.getElem?_eq_getElem hk]
    rfl
  · rw [if_neg hk, if_neg hk, hp.hi _ (by omega)]
theorem urC_m (hp : Pm n f g) {m : Nat} (hm : n ≤ m) (I : List Nat) (c : SC) : urC (I.map f) m c = mC f (urC I m c) := by
  match c with
  | .inl (ci, fs) =>
    show (Sum.inl (ci, fs.map (urV (I.map f) m)) : SC) = .inl (ci, (fs.map (urV I m)).map (mV f))
    rw [List.map_map]
    have e : fs.map (urV (I.map f) m) = fs.map (mV f ∘ urV I m) := List.map_congr_left fun v _ => by
      cases v with
      | ref k => exact congrArg Value.ref (urN_m hp hm I k)
      | _ => rfl
    rw [e]
  | .inr (k, .inl l) => rfl
  | .inr (k, .inr (.inl l)) => rfl
  | .inr (k, .inr (.inr l)) =>
    show (Sum.inr (k, .inr (.inr (l.map (Option.map (urN (I.map f) m))))) : SC) = .inr (k, .inr (.inr ((l.map (Option.map (urN I m))).map (Option.map f))))
    rw [List.map_map]
    have e : l.map (Option.map (urN (I.map f) m)) = l.map (Option.map f ∘ Option.map (urN I m)) := List.map_congr_left fun o _ => by
      cases o with
      | none => rfl
      | some j => exact congrArg some (urN_m hp hm I j)
    rw [e]
theorem paste_m {σ τ : SH} (hp : Pm n f g) (h : Sim n f σ τ) {I : List Nat} {h1 : SH} (hI1 : I.length ≤ h1.length) : Sim n f (paste σ I h1) (paste τ (I.map f) h1) := by
  have l1 : (paste σ I h1).length = σ.length + (h1.length - I.length) := by unfold paste; simp
  have l2 : (paste τ (I.map f) h1).length = τ.length + (h1.length - I.length) := by unfold paste; simp
  refine ⟨by have := h.1; omega, by rw [l1, l2, h.2.1], fun i => ?_⟩
  by_cases hi : i < σ.length
  · have hfi : f i < τ.length := by rw [h.2.1]; exact (hp.lt h.1).mpr hi
    unfold paste
    rw [List.getElem?_append_left (by rw [List.length_mapIdx]; exact hfi), List.getElem?_append_left (by rw [List.length_mapIdx]; exact hi), List.getElem?_mapIdx, List.getElem?_mapIdx, h.2.2 i, List.getElem?_eq_getElem hi]
    show some _ = some _
    congr 1
    show (if f i ∈ I.map f then urC (I.map f) τ.length (h1.getD (ixOf (f i) (I.map f)) (mC f σ[i])) else mC f σ[i]) = mC f (if i ∈ I then urC I σ.length (h1.getD (ixOf i I) σ[i]) else σ[i])
    by_cases hI : i ∈ I
    · rw [if_pos hI, if_pos ((mem_m hp).mpr hI), ixOf_m hp, h.2.1]
      have hx : ixOf i I < h1.length := by
        have := (List.getElem?_eq_some_iff.mp (ix_get hI)).1
        omega
      rw [List.getD_eq_getElem?_getD, List.getD_eq_getElem?_getD, List.getElem?_eq_getElem hx]
      exact urC_m hp h.1 I _
    · rw [if_neg hI, if_neg (fun e => hI ((mem_m hp).mp e))]
  · rw [hp.hi i (by have := h.1; omega)]
    unfold paste
    rw [List.getElem?_append_right (by rw [List.length_mapIdx, h.2.1]; omega), List.getElem?_append_right (by rw [List.length_mapIdx]; omega), List.length_mapIdx, List.length_mapIdx, h.2.1, List.length_map, List.getElem?_map, List.getElem?_map, Option.map_map]
    cases (h1.drop I.length)[i - σ.length]? with
    | none => rfl
    | some c => exact congrArg some (urC_m hp h.1 I c)
/-- what a call gives is no reference -/
def NoRef (call : Nat → List Value → SH → Option Res) : Prop := ∀ a as σ R, call a as σ = some R → R.1.map (mV f) = R.1
theorem locCall_m {call : Nat → List Value → SH → Option Res} {σ τ : SH} (hp : Pm n f g) (h : Sim n f σ τ) {a : Nat} {as : List Value} {R : Res} (hc : locCall call a as σ = some R) : ∃ τ1, locCall call a (as.map (mV f)) τ = some (R.1, τ1, R.2.2) ∧ Sim n f R.2.1 τ1 ∧ ∃ as' σ' R', call a as' σ' = some R' ∧ R'.1 = R.1 := by
  unfold locCall at hc ⊢
  rw [cutI_m hp h]
  generalize cutI σ as = I at hc ⊢
  unfold locC at hc ⊢
  split at hc
  · rename_i hcut
    rw [if_pos (cutOk_m hp h hcut), rnVs_m hp, subH_m hp h]
    cases hr : call a (as.map (rnV I)) (subH σ I) with
    | none => rw [hr] at hc; cases hc
    | some R1 =>
      rw [hr] at hc
      obtain ⟨r, h1, c1, s1⟩ := R1
      dsimp only at hc ⊢
      split at hc
      · rename_i hk
        obtain ⟨k1, k2, k3⟩ := hk
        cases hc
        have k2' : h1.length = I.length ∨ (τ.all (okC τ.length) = true ∧ τ.length + h1.length < sIdx) := by
          rcases k2 with k2 | ⟨k2, k4⟩
          · exact Or.inl k2
          · rw [h.2.1]
            exact Or.inr ⟨allC_m hp h h.1 k2, k4⟩
        rw [List.length_map, if_pos ⟨k1, k2', k3⟩]
        exact ⟨_, rfl, paste_m hp h k1, _, _, _, hr, rfl⟩
      · cases hc
  · cases hc
theorem ite_some {c : Prop} [Decidable c] {α : Type} {x : Option α} {y : α} (h : (if c then x else none) = some y) : c ∧ x = some y := by
  by_cases hc : c
  · rw [if_pos hc] at h
    exact ⟨hc, h⟩
  · rw [if_neg hc] at h
    cases h
theorem exec_m {scr : Option (List Int32)} {ini : Bool} {o nL : Nat} {tb : List (List (Option XE))} {call : Nat → List Value → SH → Option Res} (hp : Pm n f g) (hcall : NoRef (f := f) call) : ∀ (N pc : Nat) (st : List Value) (lv : LV) (σ τ : SH) (R : Res), Sim n f σ τ → exec scr ini o nL tb call N pc st lv σ = some R → ∃ τ1, exec scr ini o nL tb call N pc (st.map (mV f)) (mL f lv) τ = some (R.1.map (mV f), τ1, R.2.2) := by
  intro N
  induction N with
  | zero => intro pc st lv σ τ R _ h; cases h
  | succ N ih =>
    intro pc st lv σ τ R hs h
    unfold exec at h ⊢
    cases hg : tbGet tb pc with
    | none => rw [hg] at h; cases h
    | some e =>
      obtain ⟨i, len, k, a, b, w⟩ := e
      rw [hg] at h
      dsimp only at h ⊢
      match k with
      | 0 =>
        try dsimp only at h ⊢
        rw [stepA_m]
        cases h1 : stepA i a st lv with
        | none => rw [h1] at h; cases h
        | some st1 => rw [h1] at h; exact ih _ _ _ _ _ _ hs h
      | 1 =>
        try dsimp only at h ⊢
        rw [stepB_m]
        cases h1 : stepB i nL st lv with
        | none => rw [h1] at h; cases h
        | some q => rw [h1] at h; obtain ⟨st1, lv1⟩ := q; exact ih _ _ _ _ _ _ hs h
      | 2 =>
        try dsimp only at h ⊢
        rw [stepC_m]
        cases h1 : stepC i pc st with
        | none => rw [h1] at h; cases h
        | some q => rw [h1] at h; obtain ⟨pc1, st1⟩ := q; exact ih _ _ _ _ _ _ hs h
      | 3 =>
        try dsimp only at h ⊢
        rw [stepD_m hp hs]
        cases h1 : stepD scr i a b st σ with
        | none => rw [h1] at h; cases h
        | some st1 => rw [h1] at h; exact ih _ _ _ _ _ _ hs h
      | 4 =>
        try dsimp only at h ⊢
        cases h1 : stepE ini o i a b st σ with
        | none => rw [h1] at h; cases h
        | some q =>
          rw [h1] at h
          obtain ⟨st1, σ1⟩ := q
          obtain ⟨τ1, e1, e2⟩ := stepE_m hp hs h1
          rw [e1]
          exact ih _ _ _ _ _ _ e2 h
      | 5 =>
        try dsimp only at h ⊢
        cases h1 : stepF i a st lv σ with
        | none => rw [h1] at h; cases h
        | some q =>
          rw [h1] at h
          obtain ⟨st1, σ1, kc, ks⟩ := q
          obtain ⟨τ1, e1, e2⟩ := stepF_m hp hs h1
          rw [e1]
          try dsimp only at h ⊢
          cases h2 : exec scr ini o nL tb call N (pc + len) st1 lv σ1 with
          | none => rw [h2] at h; cases h
          | some R2 =>
            rw [h2] at h
            obtain ⟨r, σ2, c2, s2⟩ := R2
            cases h
            obtain ⟨τ2, e3⟩ := ih _ _ _ _ _ _ e2 h2
            rw [e3]
            exact ⟨_, rfl⟩
      | 6 =>
        try dsimp only at h ⊢
        cases h1 : stepR i st with
        | none => rw [h1] at h; cases h
        | some r =>
          rw [h1] at h
          cases h
          have e : stepR i (st.map (mV f)) = some (r.map (mV f)) := by
            cases i
            case ireturn =>
              rcases st with _ | ⟨v, _ | ⟨w, q⟩⟩
              · cases h1
              · cases v <;> first | (cases h1; rfl) | cases h1
              · cases v <;> cases h1
            case lreturn =>
              rcases st with _ | ⟨v, _ | ⟨w, q⟩⟩
              · cases h1
              · cases v <;> first | (cases h1; rfl) | cases h1
              · cases v <;> cases h1
            case return_ =>
              rcases st with _ | ⟨v, q⟩
              · cases h1; rfl
              · cases h1
            all_goals cases h1
          rw [e]
          exact ⟨_, rfl⟩
      | 7 =>
        try dsimp only at h ⊢
        have h' : (if isCall i = true then (match callIn a b st lv σ with
          | some (as, rest) => match locCall call a as σ with
            | some (r, σ1, c1, s1) => (match exec scr ini o nL tb call N (pc + 3) (r.toList ++ rest) lv σ1 with
              | some (r2, σ2, c2, s2) => some (r2, σ2, c1 + c2, s1 + s2)
              | none => none)
            | none => none
          | none => none) else none) = some R := h
        obtain ⟨hi, h⟩ := ite_some h'
        show ∃ τ1, (if isCall i = true then (match callIn a b (st.map (mV f)) (mL f lv) τ with
          | some (as, rest) => match locCall call a as τ with
            | some (r, σ1, c1, s1) => (match exec scr ini o nL tb call N (pc + 3) (r.toList ++ rest) (mL f lv) σ1 with
              | some (r2, σ2, c2, s2) => some (r2, σ2, c1 + c2, s1 + s2)
              | none => none)
            | none => none
          | none => none) else none) = some (R.1.map (mV f), τ1, R.2.2)
        · rw [if_pos hi]
          cases h1 : callIn a b st lv σ with
          | none => rw [h1] at h; cases h
          | some q =>
            obtain ⟨as, rest⟩ := q
            rw [h1] at h
            rw [callIn_m hp hs h1]
            try dsimp only at h ⊢
            cases h2 : locCall call a as σ with
            | none => rw [h2] at h; cases h
            | some R1 =>
              obtain ⟨τ1, e1, e2, as', σ', R', e3, e4⟩ := locCall_m hp hs h2
              obtain ⟨r, σ1, c1, s1⟩ := R1
              rw [h2] at h
              rw [e1]
              dsimp only at h ⊢ e1 e2 e4
              have hr : r.map (mV f) = r := by
                rw [← e4]
                exact hcall _ _ _ _ e3
              cases h3 : exec scr ini o nL tb call N (pc + 3) (r.toList ++ rest) lv σ1 with
              | none => rw [h3] at h; cases h
              | some R2 =>
                rw [h3] at h
                obtain ⟨r2, σ2, c2, s2⟩ := R2
                cases h
                obtain ⟨τ2, e5⟩ := ih _ _ _ _ _ _ e2 h3
                have e6 : (r.toList ++ rest).map (mV f) = r.toList ++ rest.map (mV f) := by
                  rw [List.map_append]
                  congr 1
                  cases r with
                  | none => rfl
                  | some v =>
                    have : mV f v = v := Option.some.inj hr
                    show [mV f v] = [v]
                    rw [this]
                rw [e6] at e5
                rw [e5]
                exact ⟨_, rfl⟩
      | k + 8 => cases h
theorem runM_noref (F d : Nat) : NoRef (f := f) (runM F d) := by
  intro a as σ R h
  cases d with
  | zero => cases h
  | succ d =>
    unfold runM at h
    cases hm : meths[a]? with
    | none => rw [hm] at h; cases h
    | some me =>
      rw [hm] at h
      try dsimp only at h
      obtain ⟨-, h⟩ := ite_some h
      cases he : exec none (mKd me == 1) (mOw me) (mMl me) (mTb me) (runM F d) F 0 [] (lv_args 0 as) σ with
      | none => rw [he] at h; cases h
      | some q =>
        obtain ⟨r, σ', c, s⟩ := q
        rw [he] at h
        try dsimp only at h
        obtain ⟨hr, h⟩ := ite_some h
        cases h
        cases r with
        | none => rfl
        | some v =>
          cases v with
          | ref j =>
            exfalso
            cases hb : mRt me with
            | none => rw [hb] at hr; cases hr
            | some ty => rw [hb] at hr; cases ty <;> cases hr
          | _ => rfl
/-- a run from a state, its heap rearranged: as many cells, the same number -/
theorem Ex_m {scr : Option (List Int32)} {ini : Bool} {o nL : Nat} {tb : List (List (Option XE))} {d pc ca cb : Nat} {st : List Value} {lv : LV} {σ τ : SH} {R : Res} (hp : Pm n f g) (hs : Sim n f σ τ) (h : Ex scr ini o nL tb d (pc, st, lv, σ, ca, cb) R) : ∃ τ1, Ex scr ini o nL tb d (pc, st.map (mV f), mL f lv, τ, ca, cb) (R.1.map (mV f), τ1, R.2.2) := by
  obtain ⟨F, N, kc, ks, h1, h2, h3⟩ := h
  obtain ⟨τ1, e⟩ := exec_m hp (runM_noref F d) N pc st lv σ τ (R.1, R.2.1, kc, ks) hs h1
  exact ⟨τ1, F, N, kc, ks, e, h2, h3⟩
end PERM
