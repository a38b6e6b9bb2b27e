/-! ===== branches, switches, elements of rows of references ===== -/
section BRA
variable {PP : Nat → List (List Int32) → List Int → Prop} {scr : Option (List Int32)} {scl : Option SL} {ini : Bool} {o nL : Nat} {tb : List (List (Option XE))} {d : Nat} {G : List Ln} {G0 : List Int} {rk : Option Ln} {K : Int} {Q : Res → Prop}
variable {ρ : Nat → Int} {nx : Nat} {tab : Tb} {fs : List Ln} {st rest : List AV} {lv : AL} {A : AH} {pr : List PD} {cst cr : List Value} {clv : LV} {cσ : SH}
noncomputable def TF (ρ : Nat → Int) (nx : Nat) (tab : Tb) (fs : List Ln) : Prop := ∀ ρ', agr2 nx ρ ρ' → tOk ρ' tab ∧ fOk ρ' fs
theorem asm_all {c : Jvm.ClassFile.Cond} {x y : Ln} (h0 : TF ρ nx tab fs) (h : ∀ ρ', agr2 nx ρ ρ' → cndZ c (ev ρ' x) (ev ρ' y)) : ∃ tab' fs', asm c tab fs x y = some (tab', fs') ∧ TF ρ nx tab' fs' := by
  obtain ⟨t, f, e, -, -⟩ := asm_ok (h0 ρ agr2.rf).1 (h0 ρ agr2.rf).2 (h ρ agr2.rf)
  refine ⟨t, f, e, fun ρ' ha => ?_⟩
  obtain ⟨t', f', e', h1, h2⟩ := asm_ok (h0 ρ' ha).1 (h0 ρ' ha).2 (h ρ' ha)
  rw [e] at e'
  cases e'
  exact ⟨h1, h2⟩
theorem cand {p q : Bool} (h : (bif p then q else false) = true) : p = true ∧ q = true := by
  cases p with
  | false => cases h
  | true => exact ⟨rfl, h⟩
theorem onJ_inv {r : Option Nat} {f : Nat → Bool} (h : onJ r f = true) : ∃ t, r = some t ∧ f t = true := by
  cases r with
  | none => cases h
  | some t => exact ⟨t, rfl, h⟩
theorem br_ok {kk : Nat → Tb → List Ln → Bool} {c : Jvm.ClassFile.Cond} {x y : Ln} {t e : Nat} (h0 : TF ρ nx tab fs) {b : Bool} (hb : b = true → ∀ ρ', agr2 nx ρ ρ' → cndZ c (ev ρ' x) (ev ρ' y)) (hn : b = false → ∀ ρ', agr2 nx ρ ρ' → cndZ (negC c) (ev ρ' x) (ev ρ' y)) (h : br kk c tab fs x y t e = true) : ∃ tab' fs', TF ρ nx tab' fs' ∧ kk (if b = true then t else e) tab' fs' = true := by
  obtain ⟨h1, h2⟩ := cand h
  cases b with
  | true =>
    obtain ⟨tab', fs', e', h3⟩ := asm_all h0 (hb rfl)
    rw [e'] at h1
    exact ⟨tab', fs', h3, by rw [if_pos rfl]; exact h1⟩
  | false =>
    obtain ⟨tab', fs', e', h3⟩ := asm_all h0 (hn rfl)
    rw [e'] at h2
    exact ⟨tab', fs', h3, by rw [if_neg (by decide)]; exact h2⟩
theorem cmpZ_val (a b : Int) : (cmpZ a b = 1 ∧ b < a) ∨ (cmpZ a b = 0 ∧ a = b) ∨ (cmpZ a b = -1 ∧ a < b) := by
  unfold cmpZ
  by_cases h1 : b < a
  · rw [if_pos h1]; exact Or.inl ⟨rfl, h1⟩
  · rw [if_neg h1]
    by_cases h2 : a = b
    · rw [if_pos h2]; exact Or.inr (Or.inl ⟨rfl, h2⟩)
    · rw [if_neg h2]; exact Or.inr (Or.inr ⟨rfl, by omega⟩)
theorem brC_ok {kk : Nat → Tb → List Ln → Bool} {c : Jvm.ClassFile.Cond} {x y : Ln} {t e : Nat} (h0 : TF ρ nx tab fs) {z : Int32} (hz : ∀ ρ', agr2 nx ρ ρ' → z = cmpZ (ev ρ' x) (ev ρ' y)) (h : brC kk c tab fs x y t e = true) : ∃ tab' fs', TF ρ nx tab' fs' ∧ kk (if cnd c z 0 = true then t else e) tab' fs' = true := by
  have gen : br kk c tab fs x y t e = true → ∃ tab' fs', TF ρ nx tab' fs' ∧ kk (if cnd c z 0 = true then t else e) tab' fs' = true := fun h => br_ok (b := cnd c z 0) h0 (fun hb ρ' ha => by
    have := cnd_iff.mp hb
    rw [hz ρ' ha] at this
    exact cmpZ_cnd.mp this) (fun hb ρ' ha => by
    have := cnd_neg hb
    rw [hz ρ' ha] at this
    exact cmpZ_cnd.mp this) h
  have n1 : ¬ ((1 : Int32) = 0) := by decide
  have n2 : ¬ ((-1 : Int32) = 0) := by decide
  have n3 : ¬ ((1 : Int32) = -1) := by decide
  have tri : (z = 1 ∧ ∀ ρ', agr2 nx ρ ρ' → cndZ .gt (ev ρ' x) (ev ρ' y)) ∨ (z = 0 ∧ ∀ ρ', agr2 nx ρ ρ' → cndZ .eq (ev ρ' x) (ev ρ' y)) ∨ (z = -1 ∧ ∀ ρ', agr2 nx ρ ρ' → cndZ .lt (ev ρ' x) (ev ρ' y)) := by
    rcases cmpZ_val (ev ρ x) (ev ρ y) with ⟨e1, -⟩ | ⟨e1, -⟩ | ⟨e1, -⟩
    · refine Or.inl ⟨(hz ρ agr2.rf).trans e1, fun ρ' ha => ?_⟩
      have e2 : cmpZ (ev ρ' x) (ev ρ' y) = 1 := (hz ρ' ha).symm.trans ((hz ρ agr2.rf).trans e1)
      rcases cmpZ_val (ev ρ' x) (ev ρ' y) with ⟨q1, q2⟩ | ⟨q1, q2⟩ | ⟨q1, q2⟩
      · exact q2
      · exact absurd (e2.symm.trans q1) n1
      · exact absurd (e2.symm.trans q1) n3
    · refine Or.inr (Or.inl ⟨(hz ρ agr2.rf).trans e1, fun ρ' ha => ?_⟩)
      have e2 : cmpZ (ev ρ' x) (ev ρ' y) = 0 := (hz ρ' ha).symm.trans ((hz ρ agr2.rf).trans e1)
      rcases cmpZ_val (ev ρ' x) (ev ρ' y) with ⟨q1, q2⟩ | ⟨q1, q2⟩ | ⟨q1, q2⟩
      · exact absurd (q1.symm.trans e2) n1
      · exact q2
      · exact absurd (q1.symm.trans e2) n2
    · refine Or.inr (Or.inr ⟨(hz ρ agr2.rf).trans e1, fun ρ' ha => ?_⟩)
      have e2 : cmpZ (ev ρ' x) (ev ρ' y) = -1 := (hz ρ' ha).symm.trans ((hz ρ agr2.rf).trans e1)
      rcases cmpZ_val (ev ρ' x) (ev ρ' y) with ⟨q1, q2⟩ | ⟨q1, q2⟩ | ⟨q1, q2⟩
      · exact absurd (q1.symm.trans e2) n3
      · exact absurd (q1.symm.trans e2) (fun q => n2 q.symm)
      · exact q2
  cases c with
  | eq =>
    obtain ⟨g1, h⟩ := cand h
    obtain ⟨g2, g3⟩ := cand h
    rcases tri with ⟨e1, q⟩ | ⟨e1, q⟩ | ⟨e1, q⟩
    · obtain ⟨tab', fs', e', h3⟩ := asm_all h0 q
      rw [e'] at g3
      subst e1
      exact ⟨tab', fs', h3, by rw [if_neg (by decide)]; exact g3⟩
    · obtain ⟨tab', fs', e', h3⟩ := asm_all h0 q
      rw [e'] at g1
      subst e1
      exact ⟨tab', fs', h3, by rw [if_pos (by decide)]; exact g1⟩
    · obtain ⟨tab', fs', e', h3⟩ := asm_all h0 q
      rw [e'] at g2
      subst e1
      exact ⟨tab', fs', h3, by rw [if_neg (by decide)]; exact g2⟩
  | ne =>
    obtain ⟨g1, h⟩ := cand h
    obtain ⟨g2, g3⟩ := cand h
    rcases tri with ⟨e1, q⟩ | ⟨e1, q⟩ | ⟨e1, q⟩
    · obtain ⟨tab', fs', e', h3⟩ := asm_all h0 q
      rw [e'] at g3
      subst e1
      exact ⟨tab', fs', h3, by rw [if_pos (by decide)]; exact g3⟩
    · obtain ⟨tab', fs', e', h3⟩ := asm_all h0 q
      rw [e'] at g1
      subst e1
      exact ⟨tab', fs', h3, by rw [if_neg (by decide)]; exact g1⟩
    · obtain ⟨tab', fs', e', h3⟩ := asm_all h0 q
      rw [e'] at g2
      subst e1
      exact ⟨tab', fs', h3, by rw [if_pos (by decide)]; exact g2⟩
  | _ => exact gen h
theorem br3_ok {kk : Nat → Tb → List Ln → Bool} {c : Jvm.ClassFile.Cond} {x y : Ln} {t e : Nat} (h0 : TF ρ nx tab fs) {a b : Int32} (ha : ∀ ρ', agr2 nx ρ ρ' → a.toInt = ev ρ' x) (hb : ∀ ρ', agr2 nx ρ ρ' → b.toInt = ev ρ' y) (h : br3 kk c tab fs x y t e = true) : ∃ tab' fs', TF ρ nx tab' fs' ∧ kk (if cnd c a b = true then t else e) tab' fs' = true := by
  unfold br3 at h
  cases h2 : twoS x y with
  | true =>
    rw [h2] at h
    obtain ⟨tab', fs', t1, t2⟩ := brC_ok (z := cmpZ a.toInt b.toInt) h0 (fun ρ' hr => by rw [ha ρ' hr, hb ρ' hr]) h
    refine ⟨tab', fs', t1, ?_⟩
    have e1 : cnd c (cmpZ a.toInt b.toInt) 0 = cnd c a b := by
      cases h3 : cnd c a b with
      | true => exact cnd_iff.mpr (cmpZ_cnd.mpr (cnd_iff.mp h3))
      | false =>
        cases h4 : cnd c (cmpZ a.toInt b.toInt) 0 with
        | false => rfl
        | true =>
          have h5 := cnd_iff.mpr (cmpZ_cnd.mp (cnd_iff.mp h4))
          rw [h5] at h3
          cases h3
    rw [e1] at t2
    exact t2
  | false =>
    rw [h2] at h
    exact br_ok (b := cnd c a b) h0 (fun hc ρ' hr => by
      have := cnd_iff.mp hc
      rw [ha ρ' hr, hb ρ' hr] at this
      exact this) (fun hc ρ' hr => by
      have := cnd_neg hc
      rw [ha ρ' hr, hb ρ' hr] at this
      exact this) h
theorem tsAll_ok {kk : Nat → Tb → List Ln → Bool} {pc : Nat} {x : Ln} {z : Int} (h0 : TF ρ nx tab fs) (hx : ∀ ρ', agr2 nx ρ ρ' → ev ρ' x = z) (l : List Int) : ∀ (v : Int) (j : Nat), tsAll kk pc tab fs x v l = true → z = v + j → j < l.length → ∃ off t tab' fs', l[j]? = some off ∧ jmp pc off = some t ∧ TF ρ nx tab' fs' ∧ kk t tab' fs' = true := by
  induction l with
  | nil => intro v j _ _ hj; cases hj
  | cons off r ih =>
    intro v j h hz hj
    obtain ⟨h1, h⟩ := cand h
    cases j with
    | zero =>
      obtain ⟨tab', fs', e', h2⟩ := asm_all (c := .eq) (x := x) (y := kL v) h0 (fun ρ' ha => by
        show ev ρ' x = ev ρ' (kL v)
        rw [hx ρ' ha, ev_k, hz]
        show v + 0 = v
        omega)
      rw [e'] at h1
      obtain ⟨t, h3, h4⟩ := onJ_inv h1
      exact ⟨off, t, tab', fs', rfl, jmpA_ok h3, h2, h4⟩
    | succ j =>
      refine ih (Int.add v 1) j h ?_ (Nat.lt_of_succ_lt_succ hj)
      show z = v + 1 + j
      have : ((j + 1 : Nat) : Int) = (j : Int) + 1 := rfl
      omega
theorem lsAll_ok {kk : Nat → Tb → List Ln → Bool} {pc : Nat} {x : Ln} {z d' : Int} (h0 : TF ρ nx tab fs) (hx : ∀ ρ', agr2 nx ρ ρ' → ev ρ' x = z) (l : List (Int × Int)) (h : lsAll kk pc tab fs x l = true) : (∃ t tab' fs', jmp pc (Op.lookupswitch.offset l d' z) = some t ∧ TF ρ nx tab' fs' ∧ kk t tab' fs' = true) ∨ (Op.lookupswitch.offset l d' z = d' ∧ ∀ q ∈ l, q.1 ≠ z) := by
  induction l with
  | nil => exact Or.inr ⟨rfl, fun q hq => (by cases hq)⟩
  | cons q r ih =>
    obtain ⟨v, off⟩ := q
    obtain ⟨h1, h⟩ := cand h
    rw [Op.lookupswitch.offset_cons]
    by_cases hv : v = z
    · obtain ⟨tab', fs', e', h2⟩ := asm_all (c := .eq) (x := x) (y := kL v) h0 (fun ρ' ha => by
        show ev ρ' x = ev ρ' (kL v)
        rw [hx ρ' ha, ev_k, hv])
      rw [e'] at h1
      obtain ⟨t, h3, h4⟩ := onJ_inv h1
      exact Or.inl ⟨t, tab', fs', by rw [if_pos hv]; exact jmpA_ok h3, h2, h4⟩
    · rw [if_neg hv]
      rcases ih h with q | ⟨q1, q2⟩
      · exact Or.inl q
      · refine Or.inr ⟨q1, fun p hp => ?_⟩
        rcases List.mem_cons.mp hp with rfl | hp
        · exact hv
        · exact q2 p hp
theorem lsNe_ok {x : Ln} {z : Int} (hx : ∀ ρ', agr2 nx ρ ρ' → ev ρ' x = z) (l : List (Int × Int)) : ∀ (tab : Tb) (fs : List Ln), TF ρ nx tab fs → (∀ q ∈ l, q.1 ≠ z) → ∃ tab' fs', lsNe x l tab fs = some (tab', fs') ∧ TF ρ nx tab' fs' := by
  induction l with
  | nil => intro tab fs h _; exact ⟨tab, fs, rfl, h⟩
  | cons q r ih =>
    obtain ⟨v, off⟩ := q
    intro tab fs h0 hq
    obtain ⟨tab', fs', e', h2⟩ := asm_all (c := .ne) (x := x) (y := kL v) h0 (fun ρ' ha => by
      show ev ρ' x ≠ ev ρ' (kL v)
      rw [hx ρ' ha, ev_k]
      exact fun e => hq (v, off) List.mem_cons_self e.symm)
    obtain ⟨t2, f2, e2, h3⟩ := ih tab' fs' h2 (fun q hq' => hq q (List.mem_cons_of_mem _ hq'))
    refine ⟨t2, f2, ?_, h3⟩
    unfold lsNe
    rw [e']
    exact e2
theorem Inv.tf (hi : Inv PP scr scl G G0 rk K ρ nx tab fs st lv A pr cst clv cσ) : TF ρ nx tab fs := fun ρ' ha => ⟨(hi.1 ρ' ha).1, (hi.1 ρ' ha).2.1⟩
/-- the stack shorter, more known -/
theorem Inv.to {tab' : Tb} {fs' : List Ln} (hi : Inv PP scr scl G G0 rk K ρ nx tab fs st lv A pr cst clv cσ) (ht : TF ρ nx tab' fs') (hs : ∀ ρ', agr2 nx ρ ρ' → rel2 (vrel ρ') cr rest) : Inv PP scr scl G G0 rk K ρ nx tab' fs' rest lv A pr cr clv cσ :=
  hi.mk' (fun ρ' ha _ _ _ t4 t5 => ⟨(ht ρ' ha).1, (ht ρ' ha).2, hs ρ' ha, t4, t5⟩) hi.2.1 hi.2.2
/-- an int on the stack's top, in all meanings -/
theorem topI {x : Ln} {r : List AV} (hi : Inv PP scr scl G G0 rk K ρ nx tab fs (.inl (false, x) :: r) lv A pr cst clv cσ) : ∃ (z : Int32) (cr : List Value), cst = .int z :: cr ∧ ∀ ρ', agr2 nx ρ ρ' → z.toInt = ev ρ' x ∧ rel2 (vrel ρ') cr r := by
  obtain ⟨-, -, q3, -⟩ := hi.1 ρ agr2.rf
  obtain ⟨v, cr, e, h1, h2⟩ := rel2_cons q3
  obtain ⟨z, e1, hz⟩ := vI_inv h1
  subst e1
  refine ⟨z, cr, e, fun ρ' ha => ?_⟩
  obtain ⟨-, -, p3, -⟩ := hi.1 ρ' ha
  rw [e] at p3
  obtain ⟨z', e1, hz'⟩ := vI_inv p3.1
  cases e1
  exact ⟨hz', p3.2⟩
theorem topC {x y : Ln} {r : List AV} (hi : Inv PP scr scl G G0 rk K ρ nx tab fs (.inr (.inr (x, y)) :: r) lv A pr cst clv cσ) : ∃ (z : Int32) (cr : List Value), cst = .int z :: cr ∧ ∀ ρ', agr2 nx ρ ρ' → z = cmpZ (ev ρ' x) (ev ρ' y) ∧ rel2 (vrel ρ') cr r := by
  obtain ⟨-, -, q3, -⟩ := hi.1 ρ agr2.rf
  obtain ⟨v, cr, e, h1, h2⟩ := rel2_cons q3
  have e1 : v = .int (cmpZ (ev ρ x) (ev ρ y)) := h1
  subst e1
  refine ⟨_, cr, e, fun ρ' ha => ?_⟩
  obtain ⟨-, -, p3, -⟩ := hi.1 ρ' ha
  rw [e] at p3
  have e2 : Value.int (cmpZ (ev ρ x) (ev ρ y)) = .int (cmpZ (ev ρ' x) (ev ρ' y)) := p3.1
  simp only [Value.int.injEq] at e2
  exact ⟨e2, p3.2⟩
theorem topR {q : Option Nat} {r : List AV} (hi : Inv PP scr scl G G0 rk K ρ nx tab fs (.inr (.inl q) :: r) lv A pr cst clv cσ) : ∃ cr : List Value, cst = va_rf q :: cr ∧ ∀ ρ', agr2 nx ρ ρ' → rel2 (vrel ρ') cr r := by
  obtain ⟨-, -, q3, -⟩ := hi.1 ρ agr2.rf
  obtain ⟨v, cr, e, h1, h2⟩ := rel2_cons q3
  have e1 : v = va_rf q := by
    cases q with
    | none => exact h1
    | some i => exact h1
  subst e1
  refine ⟨cr, e, fun ρ' ha => ?_⟩
  obtain ⟨-, -, p3, -⟩ := hi.1 ρ' ha
  rw [e] at p3
  exact p3.2
theorem stepC_good {i : Instr} {len a b w pc cca ccb t : Nat} {r : List Value} (hg : tbGet tb pc = some (i, len, 2, a, b, w)) (hs : stepC i pc cst = some (t, r)) (h : Good scr ini o nL tb d Q (t, r, clv, cσ, cca, ccb)) : Good scr ini o nL tb d Q (pc, cst, clv, cσ, cca, ccb) :=
  Good.step (S' := (t, r, clv, cσ, cca, ccb)) (by simp only [nxt, hg, hs, Option.map_some]) h
set_option maxHeartbeats 4000000 in
theorem step2 {k : KK} {i : Instr} {len a b w pc ca cb cca ccb : Nat} (hk : KOk PP scr scl ini o nL tb d G G0 rk K Q k) (hg : tbGet tb pc = some (i, len, 2, a, b, w)) (hi : Inv PP scr scl G G0 rk K ρ nx tab fs st lv A pr cst clv cσ) (h : g2 (fun t st tab fs => k t st lv A pr nx tab fs ca cb) i pc tab fs st = true) (h1 : cca ≤ ca) (h2 : ccb ≤ cb) : Good scr ini o nL tb d Q (pc, cst, clv, cσ, cca, ccb) := by
  have no : ∀ {P : Prop}, false = true → P := fun h => by cases h
  have kk : ∀ {t : Nat} {r : List AV} {r' : List Value} {tab' : Tb} {fs' : List Ln}, k t r lv A pr nx tab' fs' ca cb = true → TF ρ nx tab' fs' → (∀ ρ', agr2 nx ρ ρ' → rel2 (vrel ρ') r' r) → Good scr ini o nL tb d Q (t, r', clv, cσ, cca, ccb) := fun hh ht hs => hk ρ _ _ _ _ _ _ _ _ _ _ _ _ _ _ _ hh (hi.to ht hs) h1 h2
  cases i with
  | goto off =>
    obtain ⟨t, ht, h⟩ := onJ_inv h
    refine stepC_good (t := t) (r := cst) hg ?_ (kk h hi.tf (fun ρ' ha => (hi.1 ρ' ha).2.2.1))
    simp only [stepC, jmpA_ok ht, Option.map_some]
  | ifCond c off =>
    obtain ⟨t, ht, h⟩ := onJ_inv h
    · split at h
      · rename_i x r
        obtain ⟨z, cr, e, hz⟩ := topI hi
        subst e
        obtain ⟨tab', fs', t1, t2⟩ := br_ok (b := cnd c z 0) hi.tf (fun hb ρ' ha => by
          have := cnd_iff.mp hb
          rw [(hz ρ' ha).1] at this
          rw [ev_k]
          exact this) (fun hb ρ' ha => by
          have := cnd_neg hb
          rw [(hz ρ' ha).1] at this
          rw [ev_k]
          exact this) h
        refine stepC_good (t := if cnd c z 0 = true then t else pc + 3) (r := cr) hg ?_ (kk t2 t1 (fun ρ' ha => (hz ρ' ha).2))
        simp only [stepC, jIf, jmpA_ok ht]
      · rename_i p q r
        obtain ⟨z, cr, e, hz⟩ := topC hi
        subst e
        obtain ⟨tab', fs', t1, t2⟩ := brC_ok hi.tf (fun ρ' ha => (hz ρ' ha).1) h
        refine stepC_good (t := if cnd c z 0 = true then t else pc + 3) (r := cr) hg ?_ (kk t2 t1 (fun ρ' ha => (hz ρ' ha).2))
        simp only [stepC, jIf, jmpA_ok ht]
      · cases h
  | if_icmp c off =>
    obtain ⟨t, ht, h⟩ := onJ_inv h
    · split at h
      · rename_i y x r _
        obtain ⟨z, cr, e, hz⟩ := topI hi
        subst e
        have hi2 : Inv PP scr scl G G0 rk K ρ nx tab fs (.inl (false, x) :: r) lv A pr cr clv cσ := hi.to hi.tf (fun ρ' ha => (hz ρ' ha).2)
        obtain ⟨z2, cr2, e, hz2⟩ := topI hi2
        subst e
        obtain ⟨tab', fs', t1, t2⟩ := br3_ok (a := z2) (b := z) hi.tf (fun ρ' ha => (hz2 ρ' ha).1) (fun ρ' ha => (hz ρ' ha).1) h
        refine stepC_good (t := if cnd c z2 z = true then t else pc + 3) (r := cr2) hg ?_ (kk t2 t1 (fun ρ' ha => (hz2 ρ' ha).2))
        simp only [stepC, jIf, jmpA_ok ht]
      · cases h
  | ifnull off =>
    simp only [g2] at h
    split at h
    · rename_i q r
      obtain ⟨cr, e, hr⟩ := topR hi
      subst e
      exact stepC_good (t := pc + 3) (r := cr) hg rfl (kk h hi.tf hr)
    · rename_i r
      obtain ⟨cr, e, hr⟩ := topR hi
      subst e
      obtain ⟨t, ht, h⟩ := onJ_inv h
      refine stepC_good (t := t) (r := cr) hg ?_ (kk h hi.tf hr)
      simp only [stepC, va_rf, jmpA_ok ht, Option.map_some]
    · cases h
  | ifnonnull off =>
    simp only [g2] at h
    split at h
    · rename_i q r
      obtain ⟨cr, e, hr⟩ := topR hi
      subst e
      obtain ⟨t, ht, h⟩ := onJ_inv h
      refine stepC_good (t := t) (r := cr) hg ?_ (kk h hi.tf hr)
      simp only [stepC, va_rf, jmpA_ok ht, Option.map_some]
    · rename_i r
      obtain ⟨cr, e, hr⟩ := topR hi
      subst e
      exact stepC_good (t := pc + 3) (r := cr) hg rfl (kk h hi.tf hr)
    · cases h
  | tableswitch df lo hi' offs =>
    simp only [g2] at h
    split at h
    · rename_i x r
      obtain ⟨t, ht, h⟩ := onJ_inv h
      obtain ⟨z, cr, e, hz⟩ := topI hi
      subst e
      obtain ⟨c1, h⟩ := cand h
      obtain ⟨c2, h⟩ := cand h
      obtain ⟨c3, h⟩ := cand h
      have hlen := leI_le c1
      have hlen' : hi' + (- lo) + 1 ≤ (offs.toList.length : Int) := hlen
      by_cases hlo : z.toInt < lo
      · obtain ⟨tab', fs', e', t1⟩ := asm_all (c := .lt) (x := x) (y := kL lo) hi.tf (fun ρ' ha => by
          show ev ρ' x < ev ρ' (kL lo)
          rw [ev_k, ← (hz ρ' ha).1]
          exact hlo)
        rw [e'] at c2
        refine stepC_good (t := t) (r := cr) hg ?_ (kk c2 t1 (fun ρ' ha => (hz ρ' ha).2))
        simp only [stepC]
        rw [if_pos (Or.inl hlo), jmpA_ok ht]
        rfl
      · by_cases hhi : hi' < z.toInt
        · obtain ⟨tab', fs', e', t1⟩ := asm_all (c := .gt) (x := x) (y := kL hi') hi.tf (fun ρ' ha => by
            show ev ρ' (kL hi') < ev ρ' x
            rw [ev_k, ← (hz ρ' ha).1]
            exact hhi)
          rw [e'] at c3
          refine stepC_good (t := t) (r := cr) hg ?_ (kk c3 t1 (fun ρ' ha => (hz ρ' ha).2))
          simp only [stepC]
          rw [if_pos (Or.inr hhi), jmpA_ok ht]
          rfl
        · obtain ⟨off, t', tab', fs', e1, e2, t1, t2⟩ := tsAll_ok (z := z.toInt) hi.tf (fun ρ' ha => (hz ρ' ha).1.symm) offs.toList lo (z.toInt - lo).toNat h (by omega) (by omega)
          refine stepC_good (t := t') (r := cr) hg ?_ (kk t2 t1 (fun ρ' ha => (hz ρ' ha).2))
          simp only [stepC]
          rw [if_neg (fun q => q.elim hlo hhi)]
          have e3 : offs[(z.toInt - lo).toNat]? = some off := by rw [← Array.getElem?_toList]; exact e1
          rw [e3]
          show (jmp pc off).map _ = _
          rw [e2]
          rfl
    · cases h
  | lookupswitch df ps =>
    simp only [g2] at h
    split at h
    · rename_i x r
      obtain ⟨t, ht, h⟩ := onJ_inv h
      obtain ⟨z, cr, e, hz⟩ := topI hi
      subst e
      obtain ⟨c1, h⟩ := cand h
      obtain ⟨c2, h⟩ := cand h
      have hx : ∀ ρ', agr2 nx ρ ρ' → ev ρ' x = z.toInt := fun ρ' ha => (hz ρ' ha).1.symm
      rcases lsAll_ok (d' := df) hi.tf hx ps.toList h with ⟨t', tab', fs', e2, t1, t2⟩ | ⟨e2, hne⟩
      · refine stepC_good (t := t') (r := cr) hg ?_ (kk t2 t1 (fun ρ' ha => (hz ρ' ha).2))
        simp only [stepC]
        rw [if_pos c1, e2]
        rfl
      · obtain ⟨tab', fs', e3, t1⟩ := lsNe_ok hx ps.toList tab fs hi.tf hne
        rw [e3] at c2
        refine stepC_good (t := t) (r := cr) hg ?_ (kk c2 t1 (fun ρ' ha => (hz ρ' ha).2))
        simp only [stepC]
        rw [if_pos c1, e2, jmpA_ok ht]
        rfl
    · cases h
  | _ => exact no h
theorem loopJ_ok {f : Nat → Bool} : ∀ (c j : Nat), loopJ f c j = true → ∀ i, j ≤ i → i < j + c → f i = true := by
  intro c
  induction c with
  | zero => intro j _ i h1 h2; omega
  | succ c ih =>
    intro j h i h1 h2
    rw [loopJ_def] at h
    try dsimp only at h
    cases hf : f j with
    | false => rw [hf] at h; cases h
    | true =>
      rw [hf] at h
      by_cases hij : i = j
      · rw [hij]; exact hf
      · exact ih (Nat.succ j) h i (by omega) (by omega)
theorem stepAA {k : KK} {len a b w pc ca cb cca ccb : Nat} (hk : KOk PP none scl ini o nL tb d G G0 rk K Q k) (hg : tbGet tb pc = some (.aaload, len, 3, a, b, w)) (hi : Inv PP none scl G G0 rk K ρ nx tab fs st lv A pr cst clv cσ) (h : aaL (fun st tab fs => k (Nat.add pc len) st lv A pr nx tab fs ca cb) tab fs A st = true) (h1 : cca ≤ ca) (h2 : ccb ≤ cb) : Good none ini o nL tb d Q (pc, cst, clv, cσ, cca, ccb) := by
  unfold aaL at h
  split at h
  · rename_i e q r
    split at h
    · rename_i kk l hq
      cases c1 : Nat.ble 4 kk with
      | false => rw [c1] at h; cases h
      | true =>
        rw [c1] at h
        cases c2 : Nat.blt kk 8 with
        | false => rw [c2] at h; cases h
        | true =>
          rw [c2] at h
          simp only [cond_true] at h
          split at h
          · rename_i x u hidx
            cases c3 : Nat.blt u l.length with
            | false => rw [c3] at h; cases h
            | true =>
              rw [c3] at h
              simp only [cond_true] at h
              obtain ⟨z, cr, e1, hz⟩ := topI hi
              subst e1
              have hi2 : Inv PP none scl G G0 rk K ρ nx tab fs (.inr (.inl (some q)) :: r) lv A pr cr clv cσ := hi.to hi.tf (fun ρ' ha => (hz ρ' ha).2)
              obtain ⟨cr2, e2, hr2⟩ := topR hi2
              subst e2
              obtain ⟨q1, q2, q3, q4, q5, -⟩ := hi.1 ρ agr2.rf
              obtain ⟨c, hc1, hc2⟩ := rel2_get q5 hq
              have e3 := crR_inv hc2
              subst e3
              obtain ⟨p1, p2, p3⟩ := idxR_ok q1 q2 (hz ρ agr2.rf).1 hidx
              have p4 := blt_iff.mp c3
              have hin : inB z l.length = true := by
                simp only [inB, Bool.and_eq_true, decide_eq_true_eq]
                exact ⟨p1, by omega⟩
              have hj := loopJ_ok _ _ h z.toNatClampNeg p2 (by
                show z.toNatClampNeg < x + Nat.succ (u - x)
                omega)
              have hzn : z.toInt = (z.toNatClampNeg : Int) := by
                have e4 : z.toNatClampNeg = z.toInt.toNat := rfl
                rw [Int32.le_iff_toInt_le] at p1
                have p1' : (0 : Int) ≤ z.toInt := p1
                omega
              obtain ⟨tab', fs', e', t1⟩ := asm_all (c := .eq) (x := e) (y := kL (.ofNat z.toNatClampNeg)) hi.tf (fun ρ' ha => by
                show ev ρ' e = ev ρ' (kL _)
                rw [ev_k, ← (hz ρ' ha).1, hzn]
                rfl)
              rw [e'] at hj
              have hstep : stepD none .aaload a b (.int z :: va_rf (some q) :: cr2) cσ = some (va_rf (l.getD z.toNatClampNeg none) :: cr2) := by
                simp only [stepD, va_rf, hc1]
                rw [if_pos ⟨Nat.le_of_ble_eq_true c1, blt_iff.mp c2, hin⟩]
              refine Good.step (S' := (pc + len, va_rf (l.getD z.toNatClampNeg none) :: cr2, clv, cσ, cca, ccb)) (by simp only [nxt, hg, hstep, Option.map_some]) ?_
              refine hk ρ _ _ _ _ _ _ _ _ _ _ _ _ _ _ _ hj (hi.to t1 (fun ρ' ha => ⟨?_, hr2 ρ' ha⟩)) h1 h2
              cases l.getD z.toNatClampNeg none with
              | none => rfl
              | some j => rfl
          · cases h
    · cases h
  · cases h
end BRA
